/-! small methods that queries call -/
theorem sm_z {f : Nat → Nat} {n : Nat} : ∀ m, n ≤ m → (∀ k, n ≤ k → k < m → f k = 0) → sm f m = sm f n := by
  intro m
  induction m with
  | zero => intro h _; rw [show n = 0 by omega]
  | succ m ih =>
    intro h h2
    by_cases q : n = m + 1
    · rw [q]
    · show sm f m + f m = sm f n
      rw [ih (by omega) (fun k h3 h4 => h2 k h3 (by omega)), h2 m (by omega) (by omega)]
      rfl
theorem sm_blk {f : Nat → Nat} {b : Nat} : ∀ m, sm f (b * m) = sm (fun c => sm (fun o => f (b * c + o)) b) m := by
  have h1 : ∀ s k, sm f (s + k) = sm f s + sm (fun o => f (s + o)) k := by
    intro s k
    induction k with
    | zero => rfl
    | succ k ih =>
      show sm f (s + k) + f (s + k) = sm f s + (sm (fun o => f (s + o)) k + f (s + k))
      rw [ih]
      omega
  intro m
  induction m with
  | zero => rfl
  | succ m ih =>
    rw [Nat.mul_succ, h1, ih]
    rfl
theorem R_owedTo {d n c : Nat} {T : Tb} {C S : Nat → Nat} {w : q_Sm} {Q : Int32 → q_Sm → Prop} {X : s_Xo} (hE : RE T C n w) (hS : rR 104 S w) (hB : rb T S) (hc : c < 2 ^ 31) (h : Q (nI (sm (oto S c) (T 7 1))) w) : s_EvI (d + 2) 0 mX12_owedTo w [.ref 79, .int (nI c), .int (-1)] Q X := by
  have hb := tb_nd hE.1
  have hb2 := tb_nc hE.1
  have h30 : w.1 79 30 = nI (T 7 1) := hE.2.1.1.2.1
  have loop : ∀ i, i ≤ T 7 1 → s_Ex (d + 2) 0 mX12_owedTo 5 [some (.ref 79), some (.int (nI c)), some (.int (-1)), some (.int (nI (sm (oto S c) i))), some (.int (nI i))] [] w (s_I Q) X := by
    refine n_down ?_ ?_
    · apply xX12_owedTo_5
      unfold vX12_owedTo_5
      try simp (disch := omega) only [s_Ii, s_Jj, s_Vn, forall_eq, L_m1, nI_add, nI_clamp, nI_leI, nI_ltI, nI_eq, vp_nI, pk_mul, pk_sub, Nat.zero_add, Nat.add_zero, wr_2, Classical.not_not, true_and, and_true, ne_eq, false_implies, true_implies, implies_true, not_true_eq_false, not_false_eq_true, ia_0, ia_1, za_1, ia_2, za_2, ia_3, za_3, ia_4, za_4, ia_5, za_5, ia_6, za_6, ia_7, za_7, ia_8, za_8, ia_9, za_9, ia_10, za_10, ia_11, za_11, ia_12, za_12, ia_13, za_13, ia_14, za_14, ia_15, za_15, ib_0, ib_1, zb_1, ic_0, ic_1, ic_2, ic_3, zc_1, zc_2, zc_3, id_0, id_1, id_2, id_3, zd_1, zd_2, zd_3, L_0, L_1, L_2, L_3, L_4, L_5, L_6, L_7, L_8, L_9, L_10, L_11, L_12, L_13, L_14, L_15, L_16, L_17, L_18, L_19, L_20, L_24, L_27, L_30, L_31, L_32, L_35, L_36, L_40, L_41, L_43, L_44, L_45, L_46, L_47, L_48, L_50, L_54, L_57, L_58, L_59, L_60, L_61, L_62, L_63, L_91, L_93, L_96, L_97, L_98, L_99, L_100, L_103, L_122, L_145, L_150, L_200, L_255, L_600, L_999, L_1000, L_2000, L_9999, L_10000, L_32767, L_12345, oI_s, oI_n, L_mn, if_true, if_false, ite_true, ite_false, Bool.false_eq_true, Nat.reduceEqDiff, Nat.reduceLeDiff, Nat.reduceLT, Nat.reduceAdd, Nat.reduceSub, Nat.reduceMul, Nat.le_refl, Nat.lt_irrefl, Nat.not_lt_zero, h30]
      exact h
    · intro i hi ih
      have b1 := hB.1 i hi
      have e1 : sm (oto S c) (i + 1) = sm (oto S c) i + oto S c i := rfl
      rw [e1] at ih
      apply xX12_owedTo_5
      unfold vX12_owedTo_5
      rw [show (-1 : Int32) = oI none from rfl] at *
      try simp (disch := omega) only [s_Ii, s_Jj, s_Vn, forall_eq, L_m1, nI_add, nI_clamp, nI_leI, nI_ltI, nI_eq, vp_nI, pk_mul, pk_sub, Nat.zero_add, Nat.add_zero, wr_2, Classical.not_not, true_and, and_true, ne_eq, false_implies, true_implies, implies_true, not_true_eq_false, not_false_eq_true, ia_0, ia_1, za_1, ia_2, za_2, ia_3, za_3, ia_4, za_4, ia_5, za_5, ia_6, za_6, ia_7, za_7, ia_8, za_8, ia_9, za_9, ia_10, za_10, ia_11, za_11, ia_12, za_12, ia_13, za_13, ia_14, za_14, ia_15, za_15, ib_0, ib_1, zb_1, ic_0, ic_1, ic_2, ic_3, zc_1, zc_2, zc_3, id_0, id_1, id_2, id_3, zd_1, zd_2, zd_3, L_0, L_1, L_2, L_3, L_4, L_5, L_6, L_7, L_8, L_9, L_10, L_11, L_12, L_13, L_14, L_15, L_16, L_17, L_18, L_19, L_20, L_24, L_27, L_30, L_31, L_32, L_35, L_36, L_40, L_41, L_43, L_44, L_45, L_46, L_47, L_48, L_50, L_54, L_57, L_58, L_59, L_60, L_61, L_62, L_63, L_91, L_93, L_96, L_97, L_98, L_99, L_100, L_103, L_122, L_145, L_150, L_200, L_255, L_600, L_999, L_1000, L_2000, L_9999, L_10000, L_32767, L_12345, oI_s, oI_n, L_mn, if_true, if_false, ite_true, ite_false, Bool.false_eq_true, Nat.reduceEqDiff, Nat.reduceLeDiff, Nat.reduceLT, Nat.reduceAdd, Nat.reduceSub, Nat.reduceMul, Nat.le_refl, Nat.lt_irrefl, Nat.not_lt_zero, h30, hS _]
      refine ⟨fun z => absurd z (by omega), fun _ => ⟨by omega, fun z => ?_, fun z => ⟨by omega, ?_⟩⟩⟩
      · rw [show oto S c i = 0 from if_neg z] at ih; exact ih
      · rw [show oto S c i = S i from if_pos z] at ih; exact ih
  apply eX12_owedTo
  unfold vX12_owedTo_0
  exact loop 0 (Nat.zero_le _)
theorem R_owedToK {d n c k : Nat} {T : Tb} {C S : Nat → Nat} {w : q_Sm} {Q : Int32 → q_Sm → Prop} {X : s_Xo} (hE : RE T C n w) (hS : rR 104 S w) (hB : rb T S) (hc : c < 2 ^ 31) (hk : k < 2 ^ 31) (h : Q (nI (sm (clm T S c k) (T 7 1))) w) : s_EvI (d + 2) 0 mX12_owedTo w [.ref 79, .int (nI c), .int (nI k)] Q X := by
  have hb := tb_nd hE.1
  have hb2 := tb_nc hE.1
  have h30 : w.1 79 30 = nI (T 7 1) := hE.2.1.1.2.1
  have loop : ∀ i, i ≤ T 7 1 → s_Ex (d + 2) 0 mX12_owedTo 5 [some (.ref 79), some (.int (nI c)), some (.int (nI k)), some (.int (nI (sm (clm T S c k) i))), some (.int (nI i))] [] w (s_I Q) X := by
    refine n_down ?_ ?_
    · apply xX12_owedTo_5
      unfold vX12_owedTo_5
      try simp (disch := omega) only [s_Ii, s_Jj, s_Vn, forall_eq, L_m1, nI_add, nI_clamp, nI_leI, nI_ltI, nI_eq, vp_nI, pk_mul, pk_sub, Nat.zero_add, Nat.add_zero, wr_2, Classical.not_not, true_and, and_true, ne_eq, false_implies, true_implies, implies_true, not_true_eq_false, not_false_eq_true, ia_0, ia_1, za_1, ia_2, za_2, ia_3, za_3, ia_4, za_4, ia_5, za_5, ia_6, za_6, ia_7, za_7, ia_8, za_8, ia_9, za_9, ia_10, za_10, ia_11, za_11, ia_12, za_12, ia_13, za_13, ia_14, za_14, ia_15, za_15, ib_0, ib_1, zb_1, ic_0, ic_1, ic_2, ic_3, zc_1, zc_2, zc_3, id_0, id_1, id_2, id_3, zd_1, zd_2, zd_3, L_0, L_1, L_2, L_3, L_4, L_5, L_6, L_7, L_8, L_9, L_10, L_11, L_12, L_13, L_14, L_15, L_16, L_17, L_18, L_19, L_20, L_24, L_27, L_30, L_31, L_32, L_35, L_36, L_40, L_41, L_43, L_44, L_45, L_46, L_47, L_48, L_50, L_54, L_57, L_58, L_59, L_60, L_61, L_62, L_63, L_91, L_93, L_96, L_97, L_98, L_99, L_100, L_103, L_122, L_145, L_150, L_200, L_255, L_600, L_999, L_1000, L_2000, L_9999, L_10000, L_32767, L_12345, oI_s, oI_n, L_mn, if_true, if_false, ite_true, ite_false, Bool.false_eq_true, Nat.reduceEqDiff, Nat.reduceLeDiff, Nat.reduceLT, Nat.reduceAdd, Nat.reduceSub, Nat.reduceMul, Nat.le_refl, Nat.lt_irrefl, Nat.not_lt_zero, h30]
      exact h
    · intro i hi ih
      have b1 := hB.1 i hi
      have b2 := tb_cl hE.1 hi
      have e1 : sm (clm T S c k) (i + 1) = sm (clm T S c k) i + clm T S c k i := rfl
      rw [e1] at ih
      apply xX12_owedTo_5
      unfold vX12_owedTo_5
      try simp (disch := omega) only [s_Ii, s_Jj, s_Vn, forall_eq, L_m1, nI_add, nI_clamp, nI_leI, nI_ltI, nI_eq, vp_nI, pk_mul, pk_sub, Nat.zero_add, Nat.add_zero, wr_2, Classical.not_not, true_and, and_true, ne_eq, false_implies, true_implies, implies_true, not_true_eq_false, not_false_eq_true, ia_0, ia_1, za_1, ia_2, za_2, ia_3, za_3, ia_4, za_4, ia_5, za_5, ia_6, za_6, ia_7, za_7, ia_8, za_8, ia_9, za_9, ia_10, za_10, ia_11, za_11, ia_12, za_12, ia_13, za_13, ia_14, za_14, ia_15, za_15, ib_0, ib_1, zb_1, ic_0, ic_1, ic_2, ic_3, zc_1, zc_2, zc_3, id_0, id_1, id_2, id_3, zd_1, zd_2, zd_3, L_0, L_1, L_2, L_3, L_4, L_5, L_6, L_7, L_8, L_9, L_10, L_11, L_12, L_13, L_14, L_15, L_16, L_17, L_18, L_19, L_20, L_24, L_27, L_30, L_31, L_32, L_35, L_36, L_40, L_41, L_43, L_44, L_45, L_46, L_47, L_48, L_50, L_54, L_57, L_58, L_59, L_60, L_61, L_62, L_63, L_91, L_93, L_96, L_97, L_98, L_99, L_100, L_103, L_122, L_145, L_150, L_200, L_255, L_600, L_999, L_1000, L_2000, L_9999, L_10000, L_32767, L_12345, oI_s, oI_n, L_mn, if_true, if_false, ite_true, ite_false, Bool.false_eq_true, Nat.reduceEqDiff, Nat.reduceLeDiff, Nat.reduceLT, Nat.reduceAdd, Nat.reduceSub, Nat.reduceMul, Nat.le_refl, Nat.lt_irrefl, Nat.not_lt_zero, h30, hS _]
      refine ⟨fun z => absurd z (by omega), fun _ => ⟨by omega, fun z => ?_, fun z => R_colourOf hE hi ?_⟩⟩
      · rw [show clm T S c k i = 0 from if_neg (fun q => z q.1)] at ih; exact ih
      · try simp (disch := omega) only [s_Ii, s_Jj, s_Vn, forall_eq, L_m1, nI_add, nI_clamp, nI_leI, nI_ltI, nI_eq, vp_nI, pk_mul, pk_sub, Nat.zero_add, Nat.add_zero, wr_2, Classical.not_not, true_and, and_true, ne_eq, false_implies, true_implies, implies_true, not_true_eq_false, not_false_eq_true, ia_0, ia_1, za_1, ia_2, za_2, ia_3, za_3, ia_4, za_4, ia_5, za_5, ia_6, za_6, ia_7, za_7, ia_8, za_8, ia_9, za_9, ia_10, za_10, ia_11, za_11, ia_12, za_12, ia_13, za_13, ia_14, za_14, ia_15, za_15, ib_0, ib_1, zb_1, ic_0, ic_1, ic_2, ic_3, zc_1, zc_2, zc_3, id_0, id_1, id_2, id_3, zd_1, zd_2, zd_3, L_0, L_1, L_2, L_3, L_4, L_5, L_6, L_7, L_8, L_9, L_10, L_11, L_12, L_13, L_14, L_15, L_16, L_17, L_18, L_19, L_20, L_24, L_27, L_30, L_31, L_32, L_35, L_36, L_40, L_41, L_43, L_44, L_45, L_46, L_47, L_48, L_50, L_54, L_57, L_58, L_59, L_60, L_61, L_62, L_63, L_91, L_93, L_96, L_97, L_98, L_99, L_100, L_103, L_122, L_145, L_150, L_200, L_255, L_600, L_999, L_1000, L_2000, L_9999, L_10000, L_32767, L_12345, oI_s, oI_n, L_mn, if_true, if_false, ite_true, ite_false, Bool.false_eq_true, Nat.reduceEqDiff, Nat.reduceLeDiff, Nat.reduceLT, Nat.reduceAdd, Nat.reduceSub, Nat.reduceMul, Nat.le_refl, Nat.lt_irrefl, Nat.not_lt_zero, hS _]
        refine ⟨fun z2 => ?_, fun z2 => ⟨by omega, ?_⟩⟩
        · rw [show clm T S c k i = 0 from if_neg (fun q => z2 q.2)] at ih; exact ih
        · rw [show clm T S c k i = S i from if_pos ⟨z, z2⟩] at ih; exact ih
  apply eX12_owedTo
  unfold vX12_owedTo_0
  exact loop 0 (Nat.zero_le _)
/-- among creditors -/
theorem KE.loan {o l n : Nat} {T : Tb} {β C : Nat → Nat} {w : q_Sm} (h : KE o l T β C n w) {k : Nat} (hk : k < 36) : w.1 (o + 15) k = nI (T 6 k) := h.2.2.2.1.2.2.2.2.2.2.2 k hk
theorem RE.loan {n : Nat} {T : Tb} {C : Nat → Nat} {w : q_Sm} (h : RE T C n w) {k : Nat} (hk : k < 36) : w.1 95 k = nI (T 6 k) := h.2.1.2.2.2.2.2.2.2 k hk
theorem RE.nc {n : Nat} {T : Tb} {C : Nat → Nat} {w : q_Sm} (h : RE T C n w) : w.1 79 29 = nI (T 7 0) := h.2.1.1.1
theorem RE.nd {n : Nat} {T : Tb} {C : Nat → Nat} {w : q_Sm} (h : RE T C n w) : w.1 79 30 = nI (T 7 1) := h.2.1.1.2.1
theorem RE.nu {n : Nat} {T : Tb} {C : Nat → Nat} {w : q_Sm} (h : RE T C n w) : w.1 79 31 = nI (T 7 2) := h.2.1.1.2.2.1
theorem KE.nu {o l n : Nat} {T : Tb} {β C : Nat → Nat} {w : q_Sm} (h : KE o l T β C n w) : w.1 o 10 = nI (T 7 2) := h.2.2.2.1.1.2.2.1
theorem tb_nu {T : Tb} (h : tb T) : T 7 2 ≤ 12 := h.1.2.2.1
theorem K_loan {d o l n i j : Nat} {T : Tb} {β C : Nat → Nat} {w : q_Sm} {Q : Int32 → q_Sm → Prop} {X : s_Xo} (hE : KE o l T β C n w) (hi : i < 6) (hj : j < 6) (h : Q (nI (T 6 (6 * i + j))) w) : s_EvI (d + 1) 0 mX2_loan w [.ref o, .int (nI i), .int (nI j)] Q X := by
  have hoo := hE.1
  have e := hE.loan (k := i * 6 + j) (by omega)
  apply eX2_loan
  unfold vX2_loan_0
  try simp (disch := omega) only [s_Ii, s_Jj, s_Vn, forall_eq, L_m1, nI_add, nI_clamp, nI_leI, nI_ltI, nI_eq, vp_nI, pk_mul, pk_sub, Nat.zero_add, Nat.add_zero, wr_2, Classical.not_not, true_and, and_true, ne_eq, false_implies, true_implies, implies_true, not_true_eq_false, not_false_eq_true, ia_0, ia_1, za_1, ia_2, za_2, ia_3, za_3, ia_4, za_4, ia_5, za_5, ia_6, za_6, ia_7, za_7, ia_8, za_8, ia_9, za_9, ia_10, za_10, ia_11, za_11, ia_12, za_12, ia_13, za_13, ia_14, za_14, ia_15, za_15, ib_0, ib_1, zb_1, ic_0, ic_1, ic_2, ic_3, zc_1, zc_2, zc_3, id_0, id_1, id_2, id_3, zd_1, zd_2, zd_3, L_0, L_1, L_2, L_3, L_4, L_5, L_6, L_7, L_8, L_9, L_10, L_11, L_12, L_13, L_14, L_15, L_16, L_17, L_18, L_19, L_20, L_24, L_27, L_30, L_31, L_32, L_35, L_36, L_40, L_41, L_43, L_44, L_45, L_46, L_47, L_48, L_50, L_54, L_57, L_58, L_59, L_60, L_61, L_62, L_63, L_91, L_93, L_96, L_97, L_98, L_99, L_100, L_103, L_122, L_145, L_150, L_200, L_255, L_600, L_999, L_1000, L_2000, L_9999, L_10000, L_32767, L_12345, oI_s, oI_n, L_mn, if_true, if_false, ite_true, ite_false, Bool.false_eq_true, Nat.reduceEqDiff, Nat.reduceLeDiff, Nat.reduceLT, Nat.reduceAdd, Nat.reduceSub, Nat.reduceMul, Nat.le_refl, Nat.lt_irrefl, Nat.not_lt_zero, e]
  rw [Nat.mul_comm i 6]
  exact ⟨by omega, h⟩
def ne1 (T : Tb) (c : Nat) : Nat → Int32
  | 0 => 0
  | i + 1 => ne1 T c i + (nI (T 6 (6 * i + c)) - nI (T 6 (6 * c + i)))
theorem K_netOf {d o l n c : Nat} {T : Tb} {β C : Nat → Nat} {w : q_Sm} {Q : Int32 → q_Sm → Prop} {X : s_Xo} (hE : KE o l T β C n w) (hc : c < 6) (h : Q (ne1 T c (T 7 0)) w) : s_EvI (d + 2) 0 mX2_netOf w [.ref o, .int (nI c)] Q X := by
  have hoo := hE.1
  have hb := tb_nc hE.2.2.1
  have loop : ∀ i, i ≤ T 7 0 → s_Ex (d + 2) 0 mX2_netOf 4 [some (.ref o), some (.int (nI c)), some (.int (ne1 T c i)), some (.int (nI i))] [] w (s_I Q) X := by
    refine n_down ?_ ?_
    · apply xX2_netOf_4
      unfold vX2_netOf_4
      try simp (disch := omega) only [s_Ii, s_Jj, s_Vn, forall_eq, L_m1, nI_add, nI_clamp, nI_leI, nI_ltI, nI_eq, vp_nI, pk_mul, pk_sub, Nat.zero_add, Nat.add_zero, wr_2, Classical.not_not, true_and, and_true, ne_eq, false_implies, true_implies, implies_true, not_true_eq_false, not_false_eq_true, ia_0, ia_1, za_1, ia_2, za_2, ia_3, za_3, ia_4, za_4, ia_5, za_5, ia_6, za_6, ia_7, za_7, ia_8, za_8, ia_9, za_9, ia_10, za_10, ia_11, za_11, ia_12, za_12, ia_13, za_13, ia_14, za_14, ia_15, za_15, ib_0, ib_1, zb_1, ic_0, ic_1, ic_2, ic_3, zc_1, zc_2, zc_3, id_0, id_1, id_2, id_3, zd_1, zd_2, zd_3, L_0, L_1, L_2, L_3, L_4, L_5, L_6, L_7, L_8, L_9, L_10, L_11, L_12, L_13, L_14, L_15, L_16, L_17, L_18, L_19, L_20, L_24, L_27, L_30, L_31, L_32, L_35, L_36, L_40, L_41, L_43, L_44, L_45, L_46, L_47, L_48, L_50, L_54, L_57, L_58, L_59, L_60, L_61, L_62, L_63, L_91, L_93, L_96, L_97, L_98, L_99, L_100, L_103, L_122, L_145, L_150, L_200, L_255, L_600, L_999, L_1000, L_2000, L_9999, L_10000, L_32767, L_12345, oI_s, oI_n, L_mn, if_true, if_false, ite_true, ite_false, Bool.false_eq_true, Nat.reduceEqDiff, Nat.reduceLeDiff, Nat.reduceLT, Nat.reduceAdd, Nat.reduceSub, Nat.reduceMul, Nat.le_refl, Nat.lt_irrefl, Nat.not_lt_zero, hE.nc]
      exact h
    · intro i hi ih
      apply xX2_netOf_4
      unfold vX2_netOf_4
      rw [hE.nc, nI_1]
      exact ⟨ia_0 hoo, fun z => absurd z (nI_ge hi (by omega)), fun _ => ⟨ia_0 hoo, K_loan hE (by omega) hc ⟨ia_0 hoo, K_loan hE hc (by omega) ih⟩⟩⟩
  apply eX2_netOf
  unfold vX2_netOf_0
  exact loop 0 (Nat.zero_le _)
theorem R_netOf {d n c : Nat} {T : Tb} {C : Nat → Nat} {w : q_Sm} {Q : Int32 → q_Sm → Prop} {X : s_Xo} (hE : RE T C n w) (hc : c < 6) (h : Q (ne1 T c (T 7 0)) w) : s_EvI (d + 1) 0 mX12_netOf w [.ref 79, .int (nI c)] Q X := by
  have hb := tb_nc hE.1
  have loop : ∀ i, i ≤ T 7 0 → s_Ex (d + 1) 0 mX12_netOf 4 [some (.ref 79), some (.int (nI c)), some (.int (ne1 T c i)), some (.int (nI i))] [] w (s_I Q) X := by
    refine n_down ?_ ?_
    · apply xX12_netOf_4
      unfold vX12_netOf_4
      try simp (disch := omega) only [s_Ii, s_Jj, s_Vn, forall_eq, L_m1, nI_add, nI_clamp, nI_leI, nI_ltI, nI_eq, vp_nI, pk_mul, pk_sub, Nat.zero_add, Nat.add_zero, wr_2, Classical.not_not, true_and, and_true, ne_eq, false_implies, true_implies, implies_true, not_true_eq_false, not_false_eq_true, ia_0, ia_1, za_1, ia_2, za_2, ia_3, za_3, ia_4, za_4, ia_5, za_5, ia_6, za_6, ia_7, za_7, ia_8, za_8, ia_9, za_9, ia_10, za_10, ia_11, za_11, ia_12, za_12, ia_13, za_13, ia_14, za_14, ia_15, za_15, ib_0, ib_1, zb_1, ic_0, ic_1, ic_2, ic_3, zc_1, zc_2, zc_3, id_0, id_1, id_2, id_3, zd_1, zd_2, zd_3, L_0, L_1, L_2, L_3, L_4, L_5, L_6, L_7, L_8, L_9, L_10, L_11, L_12, L_13, L_14, L_15, L_16, L_17, L_18, L_19, L_20, L_24, L_27, L_30, L_31, L_32, L_35, L_36, L_40, L_41, L_43, L_44, L_45, L_46, L_47, L_48, L_50, L_54, L_57, L_58, L_59, L_60, L_61, L_62, L_63, L_91, L_93, L_96, L_97, L_98, L_99, L_100, L_103, L_122, L_145, L_150, L_200, L_255, L_600, L_999, L_1000, L_2000, L_9999, L_10000, L_32767, L_12345, oI_s, oI_n, L_mn, if_true, if_false, ite_true, ite_false, Bool.false_eq_true, Nat.reduceEqDiff, Nat.reduceLeDiff, Nat.reduceLT, Nat.reduceAdd, Nat.reduceSub, Nat.reduceMul, Nat.le_refl, Nat.lt_irrefl, Nat.not_lt_zero, hE.nc]
      exact h
    · intro i hi ih
      apply xX12_netOf_4
      unfold vX12_netOf_4
      have e1 : (6 : Int32) * nI i + nI c = nI (6 * i + c) := by rw [show (6 : Int32) = nI 6 from rfl, pk_mul, nI_add]
      have e2 : (6 : Int32) * nI c + nI i = nI (6 * c + i) := by rw [show (6 : Int32) = nI 6 from rfl, pk_mul, nI_add]
      rw [hE.nc, nI_1, e1, e2, nI_clamp (by omega), nI_clamp (by omega), hE.loan (by omega), hE.loan (by omega)]
      exact ⟨fun z => absurd z (nI_ge hi (by omega)), fun _ => ⟨(vp_nI (by omega)).mpr (by omega), (vp_nI (by omega)).mpr (by omega), ih⟩⟩
  apply eX12_netOf
  unfold vX12_netOf_0
  exact loop 0 (Nat.zero_le _)
def ls1 (T : Tb) : Nat → Int32
  | 0 => 0
  | i + 1 => ls1 T i + (if 0 < ne1 T i (T 7 0) then ne1 T i (T 7 0) else 0)
theorem K_leastSum {d o l n : Nat} {T : Tb} {β C : Nat → Nat} {w : q_Sm} {Q : Int32 → q_Sm → Prop} {X : s_Xo} (hE : KE o l T β C n w) (h : Q (ls1 T (T 7 0)) w) : s_EvI (d + 3) 0 mX2_leastSum w [.ref o] Q X := by
  have hoo := hE.1
  have hb := tb_nc hE.2.2.1
  have loop : ∀ i, i ≤ T 7 0 → s_Ex (d + 3) 0 mX2_leastSum 4 [some (.ref o), some (.int (ls1 T i)), some (.int (nI i))] [] w (s_I Q) X := by
    refine n_down ?_ ?_
    · apply xX2_leastSum_4
      unfold vX2_leastSum_4
      try simp (disch := omega) only [s_Ii, s_Jj, s_Vn, forall_eq, L_m1, nI_add, nI_clamp, nI_leI, nI_ltI, nI_eq, vp_nI, pk_mul, pk_sub, Nat.zero_add, Nat.add_zero, wr_2, Classical.not_not, true_and, and_true, ne_eq, false_implies, true_implies, implies_true, not_true_eq_false, not_false_eq_true, ia_0, ia_1, za_1, ia_2, za_2, ia_3, za_3, ia_4, za_4, ia_5, za_5, ia_6, za_6, ia_7, za_7, ia_8, za_8, ia_9, za_9, ia_10, za_10, ia_11, za_11, ia_12, za_12, ia_13, za_13, ia_14, za_14, ia_15, za_15, ib_0, ib_1, zb_1, ic_0, ic_1, ic_2, ic_3, zc_1, zc_2, zc_3, id_0, id_1, id_2, id_3, zd_1, zd_2, zd_3, L_0, L_1, L_2, L_3, L_4, L_5, L_6, L_7, L_8, L_9, L_10, L_11, L_12, L_13, L_14, L_15, L_16, L_17, L_18, L_19, L_20, L_24, L_27, L_30, L_31, L_32, L_35, L_36, L_40, L_41, L_43, L_44, L_45, L_46, L_47, L_48, L_50, L_54, L_57, L_58, L_59, L_60, L_61, L_62, L_63, L_91, L_93, L_96, L_97, L_98, L_99, L_100, L_103, L_122, L_145, L_150, L_200, L_255, L_600, L_999, L_1000, L_2000, L_9999, L_10000, L_32767, L_12345, oI_s, oI_n, L_mn, if_true, if_false, ite_true, ite_false, Bool.false_eq_true, Nat.reduceEqDiff, Nat.reduceLeDiff, Nat.reduceLT, Nat.reduceAdd, Nat.reduceSub, Nat.reduceMul, Nat.le_refl, Nat.lt_irrefl, Nat.not_lt_zero, hE.nc]
      exact h
    · intro i hi ih
      apply xX2_leastSum_4
      unfold vX2_leastSum_4
      rw [hE.nc, nI_1]
      exact ⟨ia_0 hoo, fun z => absurd z (nI_ge hi (by omega)), fun _ => ⟨ia_0 hoo, K_netOf hE (by omega) (k_max ih)⟩⟩
  apply eX2_leastSum
  unfold vX2_leastSum_0
  exact loop 0 (Nat.zero_le _)
theorem K_loansInAll {d o l n : Nat} {T : Tb} {β C : Nat → Nat} {w : q_Sm} {Q : Int32 → q_Sm → Prop} {X : s_Xo} (hE : KE o l T β C n w) (h : Q (nI (sm (T 6) 36)) w) : s_EvI (d + 1) 0 mX2_loansInAll w [.ref o] Q X := by
  have hoo := hE.1
  have hq : ((0 < (o + 15) ∧ (o + 15) ≤ 116) ∧ 13 ≤ (q_sh (o + 15)).1 ∧ (q_sh (o + 15)).1 < 18) := by rcases hoo with rfl | rfl <;> exact ⟨by omega, by decide⟩
  have loop : ∀ i, i ≤ 36 → s_Ex (d + 1) 0 mX2_loansInAll 4 [some (.ref o), some (.int (nI (sm (T 6) i))), some (.int (nI i))] [] w (s_I Q) X := by
    refine n_down ?_ ?_
    · apply xX2_loansInAll_4
      unfold vX2_loansInAll_4
      rw [za_15 hoo]
      exact ⟨ia_0 hoo, hq, fun _ => ⟨_, rfl, h⟩, fun z => absurd (show nI 36 ≤ nI 36 from nI_le (by omega) (by omega)) z⟩
    · intro i hi ih
      apply xX2_loansInAll_4
      unfold vX2_loansInAll_4
      rw [za_15 hoo, nI_1, nI_clamp (by omega), hE.loan hi, nI_add]
      exact ⟨ia_0 hoo, hq, fun z => absurd (show nI 36 ≤ nI i from z) (nI_ge hi (by omega)), fun _ => ⟨ia_0 hoo, ia_15 hoo, (vp_nI (by omega)).mpr hi, ih⟩⟩
  apply eX2_loansInAll
  unfold vX2_loansInAll_0
  exact loop 0 (Nat.zero_le _)
theorem loans_eq {T : Tb} (ht : tb T) : sm (T 6) 36 = sm (fun c => sm (fun o => T 6 (6 * c + o)) (T 7 0)) (T 7 0) := by
  have hb := tb_nc ht
  have hz := ht.2.2.2.2.2.2.2.2
  rw [show (36 : Nat) = 6 * 6 from rfl, sm_blk, sm_z (n := T 7 0) 6 hb]
  · refine sm_c _ (fun c hc => ?_)
    exact sm_z 6 hb (fun o h1 h2 => hz c o (by omega) h2 (Or.inr h1))
  · intro c h1 h2
    show sm (fun o => T 6 (6 * c + o)) 6 = 0
    rw [sm_z (n := 0) 6 (by omega) (fun o _ h4 => hz c o h2 h4 (Or.inl h1))]
    rfl
theorem r_struckL {d n x : Nat} {T : Tb} {C : Nat → Nat} {w : q_Sm} {Q : Int32 → q_Sm → Prop} {X : s_Xo} (hE : RE T C n w) (hx : x < 2) (h : Q (if x = 0 then ls1 T (T 7 0) else nI (sm (T 6) 36) - ls1 T (T 7 0)) w) : s_Ex (d + 2) 0 mX12_struck 29 [some (.ref 79), some (.int (nI x)), some (.int (nI 0)), some (.int (nI 0)), some (.int (nI 0)), none] [] w (s_I Q) X := by
  have hb := tb_nc hE.1
  rw [loans_eq hE.1] at h
  have loop : ∀ i, i ≤ T 7 0 → s_Ex (d + 2) 0 mX12_struck 29 [some (.ref 79), some (.int (nI x)), some (.int (ls1 T i)), some (.int (nI (sm (fun c => sm (fun o => T 6 (6 * c + o)) (T 7 0)) i))), some (.int (nI i)), none] [] w (s_I Q) X := by
    refine n_down ?_ ?_
    · apply xX12_struck_29
      unfold vX12_struck_29
      rw [hE.nc]
      refine ⟨fun _ => ⟨fun z => ?_, fun z => ?_⟩, fun z => absurd (nI_le (Nat.le_refl _) (by omega)) z⟩
      · rw [if_neg (fun q => z (by rw [q]; rfl))] at h
        exact ⟨_, rfl, h⟩
      · have z2 : nI x = nI 0 := Decidable.not_not.mp z
        rw [if_pos ((nI_eq (by omega) (by omega)).mp z2)] at h
        exact ⟨_, rfl, h⟩
    · intro i hi ih
      have inner : ∀ j, j ≤ T 7 0 → s_Ex (d + 2) 0 mX12_struck 63 [some (.ref 79), some (.int (nI x)), some (.int (ls1 T (i + 1))), some (.int (nI (sm (fun c => sm (fun o => T 6 (6 * c + o)) (T 7 0)) i + sm (fun o => T 6 (6 * i + o)) j))), some (.int (nI i)), some (.int (nI j))] [] w (s_I Q) X := by
        refine n_down ?_ ?_
        · apply xX12_struck_63
          unfold vX12_struck_63
          rw [hE.nc, nI_1]
          exact ⟨fun _ => ih, fun z => absurd (nI_le (Nat.le_refl _) (by omega)) z⟩
        · intro j hj ih2
          apply xX12_struck_63
          unfold vX12_struck_63
          have e1 : (6 : Int32) * nI i + nI j = nI (6 * i + j) := by rw [show (6 : Int32) = nI 6 from rfl, pk_mul, nI_add]
          have e4 : sm (fun o => T 6 (6 * i + o)) (j + 1) = sm (fun o => T 6 (6 * i + o)) j + T 6 (6 * i + j) := rfl
          rw [e4, ← Nat.add_assoc (sm (fun c => sm (fun o => T 6 (6 * c + o)) (T 7 0)) i)] at ih2
          rw [hE.nc, e1, nI_clamp (by omega), hE.loan (by omega), nI_add, nI_1 j]
          exact ⟨fun z => absurd z (nI_ge hj (by omega)), fun _ => ⟨(vp_nI (by omega)).mpr (by omega), ih2⟩⟩
      apply xX12_struck_29
      unfold vX12_struck_29
      rw [hE.nc]
      refine ⟨fun z => absurd z (nI_ge hi (by omega)), fun _ => R_netOf hE (by omega) ⟨fun z => ?_, fun z => R_netOf hE (by omega) ?_⟩⟩
      · have := inner 0 (Nat.zero_le _)
        rw [show ls1 T (i + 1) = ls1 T i + 0 by
          show ls1 T i + (if 0 < ne1 T i (T 7 0) then ne1 T i (T 7 0) else 0) = _
          rw [if_neg (Int32.not_lt.mpr z)]] at this
        exact this
      · have := inner 0 (Nat.zero_le _)
        rw [show ls1 T (i + 1) = ls1 T i + ne1 T i (T 7 0) by
          show ls1 T i + (if 0 < ne1 T i (T 7 0) then ne1 T i (T 7 0) else 0) = _
          rw [if_pos (Int32.not_le.mp z)]] at this
        exact this
  exact loop 0 (Nat.zero_le _)
/-- who sees the sea -/
def see (T : Tb) (x e : Nat) : Prop := ∀ c, c < x → T 3 c * (x + 1) < (e + T 3 x) * (c + 1)
theorem KE.ridge {o l n : Nat} {T : Tb} {β C : Nat → Nat} {w : q_Sm} (h : KE o l T β C n w) {k : Nat} (hk : k < 20) : w.1 (o + 10) k = nI (T 3 k) := h.2.2.2.1.2.2.2.2.1 k hk
theorem RE.ridge {n : Nat} {T : Tb} {C : Nat → Nat} {w : q_Sm} (h : RE T C n w) {k : Nat} (hk : k < 20) : w.1 92 k = nI (T 3 k) := h.2.1.2.2.2.2.1 k hk
theorem K_showsSea {d o l n x e : Nat} {T : Tb} {β C : Nat → Nat} {w : q_Sm} {Q : Int32 → q_Sm → Prop} {X : s_Xo} (hE : KE o l T β C n w) (hx : x < 20) (he : e ≤ 99) (h1 : see T x e → Q (nI 1) w) (h0 : ¬ see T x e → Q (nI 0) w) : s_EvI (d + 1) 0 mX2_showsSea w [.ref o, .int (nI x), .int (nI e)] Q X := by
  have hoo := hE.1
  have hr := hE.2.2.1.2.2.2.2.1
  have rx := hr x hx
  have loop : ∀ i, i ≤ x → (∀ c, c < i → T 3 c * (x + 1) < (e + T 3 x) * (c + 1)) → s_Ex (d + 1) 0 mX2_showsSea 12 [some (.ref o), some (.int (nI x)), none, some (.int (nI (e + T 3 x))), some (.int (nI i))] [] w (s_I Q) X := by
    refine n_down ?_ ?_
    · intro hz
      apply xX2_showsSea_12
      unfold vX2_showsSea_12
      try simp (disch := omega) only [s_Ii, s_Jj, s_Vn, forall_eq, L_m1, nI_add, nI_clamp, nI_leI, nI_ltI, nI_eq, vp_nI, pk_mul, pk_sub, Nat.zero_add, Nat.add_zero, wr_2, Classical.not_not, true_and, and_true, ne_eq, false_implies, true_implies, implies_true, not_true_eq_false, not_false_eq_true, ia_0, ia_1, za_1, ia_2, za_2, ia_3, za_3, ia_4, za_4, ia_5, za_5, ia_6, za_6, ia_7, za_7, ia_8, za_8, ia_9, za_9, ia_10, za_10, ia_11, za_11, ia_12, za_12, ia_13, za_13, ia_14, za_14, ia_15, za_15, ib_0, ib_1, zb_1, ic_0, ic_1, ic_2, ic_3, zc_1, zc_2, zc_3, id_0, id_1, id_2, id_3, zd_1, zd_2, zd_3, L_0, L_1, L_2, L_3, L_4, L_5, L_6, L_7, L_8, L_9, L_10, L_11, L_12, L_13, L_14, L_15, L_16, L_17, L_18, L_19, L_20, L_24, L_27, L_30, L_31, L_32, L_35, L_36, L_40, L_41, L_43, L_44, L_45, L_46, L_47, L_48, L_50, L_54, L_57, L_58, L_59, L_60, L_61, L_62, L_63, L_91, L_93, L_96, L_97, L_98, L_99, L_100, L_103, L_122, L_145, L_150, L_200, L_255, L_600, L_999, L_1000, L_2000, L_9999, L_10000, L_32767, L_12345, oI_s, oI_n, L_mn, if_true, if_false, ite_true, ite_false, Bool.false_eq_true, Nat.reduceEqDiff, Nat.reduceLeDiff, Nat.reduceLT, Nat.reduceAdd, Nat.reduceSub, Nat.reduceMul, Nat.le_refl, Nat.lt_irrefl, Nat.not_lt_zero]
      exact h1 hz
    · intro i hi ih hz
      have ri := hr i (by omega)
      have b1 : T 3 i * (x + 1) ≤ 20 * 20 := Nat.mul_le_mul ri (by omega)
      have b2 : (e + T 3 x) * (i + 1) ≤ 119 * 20 := Nat.mul_le_mul (by omega) (by omega)
      apply xX2_showsSea_12
      unfold vX2_showsSea_12
      try simp (disch := omega) only [s_Ii, s_Jj, s_Vn, forall_eq, L_m1, nI_add, nI_clamp, nI_leI, nI_ltI, nI_eq, vp_nI, pk_mul, pk_sub, Nat.zero_add, Nat.add_zero, wr_2, Classical.not_not, true_and, and_true, ne_eq, false_implies, true_implies, implies_true, not_true_eq_false, not_false_eq_true, ia_0, ia_1, za_1, ia_2, za_2, ia_3, za_3, ia_4, za_4, ia_5, za_5, ia_6, za_6, ia_7, za_7, ia_8, za_8, ia_9, za_9, ia_10, za_10, ia_11, za_11, ia_12, za_12, ia_13, za_13, ia_14, za_14, ia_15, za_15, ib_0, ib_1, zb_1, ic_0, ic_1, ic_2, ic_3, zc_1, zc_2, zc_3, id_0, id_1, id_2, id_3, zd_1, zd_2, zd_3, L_0, L_1, L_2, L_3, L_4, L_5, L_6, L_7, L_8, L_9, L_10, L_11, L_12, L_13, L_14, L_15, L_16, L_17, L_18, L_19, L_20, L_24, L_27, L_30, L_31, L_32, L_35, L_36, L_40, L_41, L_43, L_44, L_45, L_46, L_47, L_48, L_50, L_54, L_57, L_58, L_59, L_60, L_61, L_62, L_63, L_91, L_93, L_96, L_97, L_98, L_99, L_100, L_103, L_122, L_145, L_150, L_200, L_255, L_600, L_999, L_1000, L_2000, L_9999, L_10000, L_32767, L_12345, oI_s, oI_n, L_mn, if_true, if_false, ite_true, ite_false, Bool.false_eq_true, Nat.reduceEqDiff, Nat.reduceLeDiff, Nat.reduceLT, Nat.reduceAdd, Nat.reduceSub, Nat.reduceMul, Nat.le_refl, Nat.lt_irrefl, Nat.not_lt_zero, hE.ridge]
      refine ⟨fun z => absurd z (by omega), fun _ => ⟨by omega, fun z => ih (fun c hc => ?_), fun z => h0 (fun q => z (q i hi))⟩⟩
      rcases Nat.lt_or_ge c i with q | q
      · exact hz c q
      · rw [show c = i by omega]; exact z
  apply eX2_showsSea
  unfold vX2_showsSea_0
  try simp (disch := omega) only [s_Ii, s_Jj, s_Vn, forall_eq, L_m1, nI_add, nI_clamp, nI_leI, nI_ltI, nI_eq, vp_nI, pk_mul, pk_sub, Nat.zero_add, Nat.add_zero, wr_2, Classical.not_not, true_and, and_true, ne_eq, false_implies, true_implies, implies_true, not_true_eq_false, not_false_eq_true, ia_0, ia_1, za_1, ia_2, za_2, ia_3, za_3, ia_4, za_4, ia_5, za_5, ia_6, za_6, ia_7, za_7, ia_8, za_8, ia_9, za_9, ia_10, za_10, ia_11, za_11, ia_12, za_12, ia_13, za_13, ia_14, za_14, ia_15, za_15, ib_0, ib_1, zb_1, ic_0, ic_1, ic_2, ic_3, zc_1, zc_2, zc_3, id_0, id_1, id_2, id_3, zd_1, zd_2, zd_3, L_0, L_1, L_2, L_3, L_4, L_5, L_6, L_7, L_8, L_9, L_10, L_11, L_12, L_13, L_14, L_15, L_16, L_17, L_18, L_19, L_20, L_24, L_27, L_30, L_31, L_32, L_35, L_36, L_40, L_41, L_43, L_44, L_45, L_46, L_47, L_48, L_50, L_54, L_57, L_58, L_59, L_60, L_61, L_62, L_63, L_91, L_93, L_96, L_97, L_98, L_99, L_100, L_103, L_122, L_145, L_150, L_200, L_255, L_600, L_999, L_1000, L_2000, L_9999, L_10000, L_32767, L_12345, oI_s, oI_n, L_mn, if_true, if_false, ite_true, ite_false, Bool.false_eq_true, Nat.reduceEqDiff, Nat.reduceLeDiff, Nat.reduceLT, Nat.reduceAdd, Nat.reduceSub, Nat.reduceMul, Nat.le_refl, Nat.lt_irrefl, Nat.not_lt_zero, hE.ridge]
  exact ⟨by omega, loop 0 (by omega) (fun c hc => absurd hc (Nat.not_lt_zero _))⟩
theorem R_seesFrom {d n x e : Nat} {T : Tb} {C : Nat → Nat} {w : q_Sm} {Q : Int32 → q_Sm → Prop} {X : s_Xo} (hE : RE T C n w) (hx : x < 20) (he : e ≤ 99) (h1 : see T x e → Q (nI 1) w) (h0 : ¬ see T x e → Q (nI 0) w) : s_EvI (d + 1) 0 mX12_seesFrom w [.ref 79, .int (nI x), .int (nI e)] Q X := by
  have hr := hE.1.2.2.2.2.1
  have rx := hr x hx
  have loop : ∀ i, i ≤ x → (∀ c, c < i → T 3 c * (x + 1) < (e + T 3 x) * (c + 1)) → s_Ex (d + 1) 0 mX12_seesFrom 12 [some (.ref 79), some (.int (nI x)), none, some (.int (nI (e + T 3 x))), some (.int (nI i))] [] w (s_I Q) X := by
    refine n_down ?_ ?_
    · intro hz
      apply xX12_seesFrom_12
      unfold vX12_seesFrom_12
      try simp (disch := omega) only [s_Ii, s_Jj, s_Vn, forall_eq, L_m1, nI_add, nI_clamp, nI_leI, nI_ltI, nI_eq, vp_nI, pk_mul, pk_sub, Nat.zero_add, Nat.add_zero, wr_2, Classical.not_not, true_and, and_true, ne_eq, false_implies, true_implies, implies_true, not_true_eq_false, not_false_eq_true, ia_0, ia_1, za_1, ia_2, za_2, ia_3, za_3, ia_4, za_4, ia_5, za_5, ia_6, za_6, ia_7, za_7, ia_8, za_8, ia_9, za_9, ia_10, za_10, ia_11, za_11, ia_12, za_12, ia_13, za_13, ia_14, za_14, ia_15, za_15, ib_0, ib_1, zb_1, ic_0, ic_1, ic_2, ic_3, zc_1, zc_2, zc_3, id_0, id_1, id_2, id_3, zd_1, zd_2, zd_3, L_0, L_1, L_2, L_3, L_4, L_5, L_6, L_7, L_8, L_9, L_10, L_11, L_12, L_13, L_14, L_15, L_16, L_17, L_18, L_19, L_20, L_24, L_27, L_30, L_31, L_32, L_35, L_36, L_40, L_41, L_43, L_44, L_45, L_46, L_47, L_48, L_50, L_54, L_57, L_58, L_59, L_60, L_61, L_62, L_63, L_91, L_93, L_96, L_97, L_98, L_99, L_100, L_103, L_122, L_145, L_150, L_200, L_255, L_600, L_999, L_1000, L_2000, L_9999, L_10000, L_32767, L_12345, oI_s, oI_n, L_mn, if_true, if_false, ite_true, ite_false, Bool.false_eq_true, Nat.reduceEqDiff, Nat.reduceLeDiff, Nat.reduceLT, Nat.reduceAdd, Nat.reduceSub, Nat.reduceMul, Nat.le_refl, Nat.lt_irrefl, Nat.not_lt_zero]
      exact h1 hz
    · intro i hi ih hz
      have ri := hr i (by omega)
      have b1 : T 3 i * (x + 1) ≤ 20 * 20 := Nat.mul_le_mul ri (by omega)
      have b2 : (e + T 3 x) * (i + 1) ≤ 119 * 20 := Nat.mul_le_mul (by omega) (by omega)
      apply xX12_seesFrom_12
      unfold vX12_seesFrom_12
      try simp (disch := omega) only [s_Ii, s_Jj, s_Vn, forall_eq, L_m1, nI_add, nI_clamp, nI_leI, nI_ltI, nI_eq, vp_nI, pk_mul, pk_sub, Nat.zero_add, Nat.add_zero, wr_2, Classical.not_not, true_and, and_true, ne_eq, false_implies, true_implies, implies_true, not_true_eq_false, not_false_eq_true, ia_0, ia_1, za_1, ia_2, za_2, ia_3, za_3, ia_4, za_4, ia_5, za_5, ia_6, za_6, ia_7, za_7, ia_8, za_8, ia_9, za_9, ia_10, za_10, ia_11, za_11, ia_12, za_12, ia_13, za_13, ia_14, za_14, ia_15, za_15, ib_0, ib_1, zb_1, ic_0, ic_1, ic_2, ic_3, zc_1, zc_2, zc_3, id_0, id_1, id_2, id_3, zd_1, zd_2, zd_3, L_0, L_1, L_2, L_3, L_4, L_5, L_6, L_7, L_8, L_9, L_10, L_11, L_12, L_13, L_14, L_15, L_16, L_17, L_18, L_19, L_20, L_24, L_27, L_30, L_31, L_32, L_35, L_36, L_40, L_41, L_43, L_44, L_45, L_46, L_47, L_48, L_50, L_54, L_57, L_58, L_59, L_60, L_61, L_62, L_63, L_91, L_93, L_96, L_97, L_98, L_99, L_100, L_103, L_122, L_145, L_150, L_200, L_255, L_600, L_999, L_1000, L_2000, L_9999, L_10000, L_32767, L_12345, oI_s, oI_n, L_mn, if_true, if_false, ite_true, ite_false, Bool.false_eq_true, Nat.reduceEqDiff, Nat.reduceLeDiff, Nat.reduceLT, Nat.reduceAdd, Nat.reduceSub, Nat.reduceMul, Nat.le_refl, Nat.lt_irrefl, Nat.not_lt_zero, hE.ridge]
      refine ⟨fun z => absurd z (by omega), fun _ => ⟨by omega, fun z => ih (fun c hc => ?_), fun z => h0 (fun q => z (q i hi))⟩⟩
      rcases Nat.lt_or_ge c i with q | q
      · exact hz c q
      · rw [show c = i by omega]; exact z
  apply eX12_seesFrom
  unfold vX12_seesFrom_0
  try simp (disch := omega) only [s_Ii, s_Jj, s_Vn, forall_eq, L_m1, nI_add, nI_clamp, nI_leI, nI_ltI, nI_eq, vp_nI, pk_mul, pk_sub, Nat.zero_add, Nat.add_zero, wr_2, Classical.not_not, true_and, and_true, ne_eq, false_implies, true_implies, implies_true, not_true_eq_false, not_false_eq_true, ia_0, ia_1, za_1, ia_2, za_2, ia_3, za_3, ia_4, za_4, ia_5, za_5, ia_6, za_6, ia_7, za_7, ia_8, za_8, ia_9, za_9, ia_10, za_10, ia_11, za_11, ia_12, za_12, ia_13, za_13, ia_14, za_14, ia_15, za_15, ib_0, ib_1, zb_1, ic_0, ic_1, ic_2, ic_3, zc_1, zc_2, zc_3, id_0, id_1, id_2, id_3, zd_1, zd_2, zd_3, L_0, L_1, L_2, L_3, L_4, L_5, L_6, L_7, L_8, L_9, L_10, L_11, L_12, L_13, L_14, L_15, L_16, L_17, L_18, L_19, L_20, L_24, L_27, L_30, L_31, L_32, L_35, L_36, L_40, L_41, L_43, L_44, L_45, L_46, L_47, L_48, L_50, L_54, L_57, L_58, L_59, L_60, L_61, L_62, L_63, L_91, L_93, L_96, L_97, L_98, L_99, L_100, L_103, L_122, L_145, L_150, L_200, L_255, L_600, L_999, L_1000, L_2000, L_9999, L_10000, L_32767, L_12345, oI_s, oI_n, L_mn, if_true, if_false, ite_true, ite_false, Bool.false_eq_true, Nat.reduceEqDiff, Nat.reduceLeDiff, Nat.reduceLT, Nat.reduceAdd, Nat.reduceSub, Nat.reduceMul, Nat.le_refl, Nat.lt_irrefl, Nat.not_lt_zero, hE.ridge]
  exact ⟨by omega, loop 0 (by omega) (fun c hc => absurd hc (Nat.not_lt_zero _))⟩
