/-! by how far dusks were moved, what to look at -/
def cB (b : Nat) (B : Nat → Nat) (m : Nat) (w : q_Sm) : Prop := (b = 44 ∨ b = 48) ∧ m ≤ 10 ∧ w.1 b 0 = nI m ∧ (∀ i, i < m → w.1 (b + 1) i = nI (B (3 * i)) ∧ w.1 (b + 2) i = nI (B (3 * i + 1)) ∧ w.1 (b + 3) i = nI (B (3 * i + 2))) ∧ ∀ i, i < m → B (3 * i) ≤ 60 ∧ B (3 * i + 1) < 4 ∧ B (3 * i + 2) ≤ 40
def rB (B : Nat → Nat) (m : Nat) (w : q_Sm) : Prop := m ≤ 10 ∧ w.1 79 55 = nI m ∧ (∀ i, i < m → w.1 108 (3 * i) = nI (B (3 * i)) ∧ w.1 108 (3 * i + 1) = nI (B (3 * i + 1)) ∧ w.1 108 (3 * i + 2) = nI (B (3 * i + 2))) ∧ ∀ i, i < m → B (3 * i) ≤ 60 ∧ B (3 * i + 1) < 4 ∧ B (3 * i + 2) ≤ 40
theorem Co.cB {T : Tb} {β C : Nat → Nat} {n : Nat} {S B : Nat → Nat} {m : Nat} {w : q_Sm} (h : Co T β C n S B m w) : cB w.2.2.2.2.2.2.1 B m w := by
  obtain ⟨h1, h2, h3, h4⟩ := h.2.2.2.2.2.2.2
  exact ⟨by have := h.1.2.2; omega, h1, h2, fun i hi => (h4 i hi).1, fun i hi => (h4 i hi).2.2⟩
theorem Co.rB {T : Tb} {β C : Nat → Nat} {n : Nat} {S B : Nat → Nat} {m : Nat} {w : q_Sm} (h : Co T β C n S B m w) : rB B m w := by
  obtain ⟨h1, h2, h3, h4⟩ := h.2.2.2.2.2.2.2
  exact ⟨h1, h3, fun i hi => (h4 i hi).2.1, fun i hi => (h4 i hi).2.2⟩
def rtb (T : Tb) (B : Nat → Nat) (s : Nat) : Nat → Bool
  | 0 => true
  | i + 1 => rtb T B s i && decide (m_light T (B (3 * i) + s) (B (3 * i + 1)) = B (3 * i + 2))
theorem rtb_f {T : Tb} {B : Nat → Nat} {s i : Nat} (h : rtb T B s i = false) : ∀ j, i ≤ j → rtb T B s j = false := by
  intro j
  induction j with
  | zero => intro hj; rw [show i = 0 by omega] at h; exact h
  | succ j ih =>
    intro hj
    by_cases q : i = j + 1
    · rw [← q]; exact h
    · unfold rtb
      rw [ih (by omega)]
      rfl
def mvB (T : Tb) (B : Nat → Nat) (m : Nat) : Nat → Nat
  | 0 => 0
  | s + 1 => if rtb T B s m = true then mvB T B m s ||| 2 ^ s else mvB T B m s
theorem mvB_lt {T : Tb} {B : Nat → Nat} {m : Nat} : ∀ s, s ≤ 12 → mvB T B m s < 2 ^ 12 := by
  intro s
  induction s with
  | zero => intro _; simp [mvB]
  | succ s ih =>
    intro hs
    unfold mvB
    split
    · exact bi_lt (ih (by omega)) (by omega)
    · exact ih (by omega)
theorem K_isRight {d o l n b m s : Nat} {T : Tb} {β C B : Nat → Nat} {w : q_Sm} {Q : Int32 → q_Sm → Prop} {X : s_Xo} (hE : KE o l T β C n w) (hb : cB b B m w) (hs : s ≤ 12) (h1 : rtb T B s m = true → Q (nI 1) w) (h0 : rtb T B s m = false → Q (nI 0) w) : s_EvI (d + 2) 0 mX1_isRight w [.ref b, .ref o, .int (nI s)] Q X := by
  obtain ⟨hbb, hm, e0, e1, e2⟩ := hb
  have hoo := hE.1
  have loop : ∀ i, i ≤ m → rtb T B s i = true → s_Ex (d + 2) 0 mX1_isRight 2 [some (.ref b), some (.ref o), some (.int (nI s)), some (.int (nI i))] [] w (s_I Q) X := by
    refine n_down ?_ ?_
    · intro hz
      apply xX1_isRight_2
      unfold vX1_isRight_2
      try simp (disch := omega) only [s_Ii, s_Jj, s_Vn, forall_eq, L_m1, nI_add, nI_clamp, nI_leI, nI_ltI, nI_eq, vp_nI, pk_mul, pk_sub, Nat.zero_add, Nat.add_zero, wr_2, Classical.not_not, true_and, and_true, ne_eq, false_implies, true_implies, implies_true, not_true_eq_false, not_false_eq_true, ia_0, ia_1, za_1, ia_2, za_2, ia_3, za_3, ia_4, za_4, ia_5, za_5, ia_6, za_6, ia_7, za_7, ia_8, za_8, ia_9, za_9, ia_10, za_10, ia_11, za_11, ia_12, za_12, ia_13, za_13, ia_14, za_14, ia_15, za_15, ib_0, ib_1, zb_1, ic_0, ic_1, ic_2, ic_3, zc_1, zc_2, zc_3, id_0, id_1, id_2, id_3, zd_1, zd_2, zd_3, L_0, L_1, L_2, L_3, L_4, L_5, L_6, L_7, L_8, L_9, L_10, L_11, L_12, L_13, L_14, L_15, L_16, L_17, L_18, L_19, L_20, L_24, L_27, L_30, L_31, L_32, L_35, L_36, L_40, L_41, L_43, L_44, L_45, L_46, L_47, L_48, L_50, L_54, L_57, L_58, L_59, L_60, L_61, L_62, L_63, L_91, L_93, L_96, L_97, L_98, L_99, L_100, L_103, L_122, L_145, L_150, L_200, L_255, L_600, L_999, L_1000, L_2000, L_9999, L_10000, L_32767, L_12345, oI_s, oI_n, L_mn, if_true, if_false, ite_true, ite_false, Bool.false_eq_true, Nat.reduceEqDiff, Nat.reduceLeDiff, Nat.reduceLT, Nat.reduceAdd, Nat.reduceSub, Nat.reduceMul, Nat.le_refl, Nat.lt_irrefl, Nat.not_lt_zero, e0]
      exact h1 hz
    · intro i hi ih hz
      obtain ⟨f1, f2, f3⟩ := e1 i hi
      obtain ⟨g1, g2, g3⟩ := e2 i hi
      have hl := m_light_le hE.2.2.1 (B (3 * i) + s) g2
      apply xX1_isRight_2
      unfold vX1_isRight_2
      try simp (disch := omega) only [s_Ii, s_Jj, s_Vn, forall_eq, L_m1, nI_add, nI_clamp, nI_leI, nI_ltI, nI_eq, vp_nI, pk_mul, pk_sub, Nat.zero_add, Nat.add_zero, wr_2, Classical.not_not, true_and, and_true, ne_eq, false_implies, true_implies, implies_true, not_true_eq_false, not_false_eq_true, ia_0, ia_1, za_1, ia_2, za_2, ia_3, za_3, ia_4, za_4, ia_5, za_5, ia_6, za_6, ia_7, za_7, ia_8, za_8, ia_9, za_9, ia_10, za_10, ia_11, za_11, ia_12, za_12, ia_13, za_13, ia_14, za_14, ia_15, za_15, ib_0, ib_1, zb_1, ic_0, ic_1, ic_2, ic_3, zc_1, zc_2, zc_3, id_0, id_1, id_2, id_3, zd_1, zd_2, zd_3, L_0, L_1, L_2, L_3, L_4, L_5, L_6, L_7, L_8, L_9, L_10, L_11, L_12, L_13, L_14, L_15, L_16, L_17, L_18, L_19, L_20, L_24, L_27, L_30, L_31, L_32, L_35, L_36, L_40, L_41, L_43, L_44, L_45, L_46, L_47, L_48, L_50, L_54, L_57, L_58, L_59, L_60, L_61, L_62, L_63, L_91, L_93, L_96, L_97, L_98, L_99, L_100, L_103, L_122, L_145, L_150, L_200, L_255, L_600, L_999, L_1000, L_2000, L_9999, L_10000, L_32767, L_12345, oI_s, oI_n, L_mn, if_true, if_false, ite_true, ite_false, Bool.false_eq_true, Nat.reduceEqDiff, Nat.reduceLeDiff, Nat.reduceLT, Nat.reduceAdd, Nat.reduceSub, Nat.reduceMul, Nat.le_refl, Nat.lt_irrefl, Nat.not_lt_zero, e0, f1, f2]
      refine ⟨fun z => absurd z (by omega), fun _ => ⟨by omega, by omega, K_shine hE (by omega) g2 ?_⟩⟩
      try simp (disch := omega) only [s_Ii, s_Jj, s_Vn, forall_eq, L_m1, nI_add, nI_clamp, nI_leI, nI_ltI, nI_eq, vp_nI, pk_mul, pk_sub, Nat.zero_add, Nat.add_zero, wr_2, Classical.not_not, true_and, and_true, ne_eq, false_implies, true_implies, implies_true, not_true_eq_false, not_false_eq_true, ia_0, ia_1, za_1, ia_2, za_2, ia_3, za_3, ia_4, za_4, ia_5, za_5, ia_6, za_6, ia_7, za_7, ia_8, za_8, ia_9, za_9, ia_10, za_10, ia_11, za_11, ia_12, za_12, ia_13, za_13, ia_14, za_14, ia_15, za_15, ib_0, ib_1, zb_1, ic_0, ic_1, ic_2, ic_3, zc_1, zc_2, zc_3, id_0, id_1, id_2, id_3, zd_1, zd_2, zd_3, L_0, L_1, L_2, L_3, L_4, L_5, L_6, L_7, L_8, L_9, L_10, L_11, L_12, L_13, L_14, L_15, L_16, L_17, L_18, L_19, L_20, L_24, L_27, L_30, L_31, L_32, L_35, L_36, L_40, L_41, L_43, L_44, L_45, L_46, L_47, L_48, L_50, L_54, L_57, L_58, L_59, L_60, L_61, L_62, L_63, L_91, L_93, L_96, L_97, L_98, L_99, L_100, L_103, L_122, L_145, L_150, L_200, L_255, L_600, L_999, L_1000, L_2000, L_9999, L_10000, L_32767, L_12345, oI_s, oI_n, L_mn, if_true, if_false, ite_true, ite_false, Bool.false_eq_true, Nat.reduceEqDiff, Nat.reduceLeDiff, Nat.reduceLT, Nat.reduceAdd, Nat.reduceSub, Nat.reduceMul, Nat.le_refl, Nat.lt_irrefl, Nat.not_lt_zero, f3]
      have er : rtb T B s (i + 1) = decide (m_light T (B (3 * i) + s) (B (3 * i + 1)) = B (3 * i + 2)) := by
        unfold rtb; rw [hz]; rfl
      refine ⟨by omega, fun z => ih ?_, fun z => h0 (rtb_f (i := i + 1) ?_ _ (by omega))⟩
      · rw [er]; simp [z]
      · rw [er]; simp [z]
  apply eX1_isRight
  unfold vX1_isRight_0
  exact loop 0 (by omega) rfl
theorem K_rightMoves {d o l n b m : Nat} {T : Tb} {β C B : Nat → Nat} {w : q_Sm} {Q : Int32 → q_Sm → Prop} {X : s_Xo} (hE : KE o l T β C n w) (hb : cB b B m w) (h : Q (nI (mvB T B m (T 7 2))) w) : s_EvI (d + 3) 0 mX1_rightMoves w [.ref b, .ref o] Q X := by
  have hoo := hE.1
  have hbb := hb.1
  have hnu := tb_nu hE.2.2.1
  have loop : ∀ i, i ≤ T 7 2 → s_Ex (d + 3) 0 mX1_rightMoves 4 [some (.ref b), some (.ref o), some (.int (nI (mvB T B m i))), some (.int (nI i))] [] w (s_I Q) X := by
    refine n_down ?_ ?_
    · apply xX1_rightMoves_4
      unfold vX1_rightMoves_4
      try simp (disch := omega) only [s_Ii, s_Jj, s_Vn, forall_eq, L_m1, nI_add, nI_clamp, nI_leI, nI_ltI, nI_eq, vp_nI, pk_mul, pk_sub, Nat.zero_add, Nat.add_zero, wr_2, Classical.not_not, true_and, and_true, ne_eq, false_implies, true_implies, implies_true, not_true_eq_false, not_false_eq_true, ia_0, ia_1, za_1, ia_2, za_2, ia_3, za_3, ia_4, za_4, ia_5, za_5, ia_6, za_6, ia_7, za_7, ia_8, za_8, ia_9, za_9, ia_10, za_10, ia_11, za_11, ia_12, za_12, ia_13, za_13, ia_14, za_14, ia_15, za_15, ib_0, ib_1, zb_1, ic_0, ic_1, ic_2, ic_3, zc_1, zc_2, zc_3, id_0, id_1, id_2, id_3, zd_1, zd_2, zd_3, L_0, L_1, L_2, L_3, L_4, L_5, L_6, L_7, L_8, L_9, L_10, L_11, L_12, L_13, L_14, L_15, L_16, L_17, L_18, L_19, L_20, L_24, L_27, L_30, L_31, L_32, L_35, L_36, L_40, L_41, L_43, L_44, L_45, L_46, L_47, L_48, L_50, L_54, L_57, L_58, L_59, L_60, L_61, L_62, L_63, L_91, L_93, L_96, L_97, L_98, L_99, L_100, L_103, L_122, L_145, L_150, L_200, L_255, L_600, L_999, L_1000, L_2000, L_9999, L_10000, L_32767, L_12345, oI_s, oI_n, L_mn, if_true, if_false, ite_true, ite_false, Bool.false_eq_true, Nat.reduceEqDiff, Nat.reduceLeDiff, Nat.reduceLT, Nat.reduceAdd, Nat.reduceSub, Nat.reduceMul, Nat.le_refl, Nat.lt_irrefl, Nat.not_lt_zero, hE.nu]
      exact h
    · intro i hi ih
      unfold mvB at ih
      apply xX1_rightMoves_4
      unfold vX1_rightMoves_4
      try simp (disch := omega) only [s_Ii, s_Jj, s_Vn, forall_eq, L_m1, nI_add, nI_clamp, nI_leI, nI_ltI, nI_eq, vp_nI, pk_mul, pk_sub, Nat.zero_add, Nat.add_zero, wr_2, Classical.not_not, true_and, and_true, ne_eq, false_implies, true_implies, implies_true, not_true_eq_false, not_false_eq_true, ia_0, ia_1, za_1, ia_2, za_2, ia_3, za_3, ia_4, za_4, ia_5, za_5, ia_6, za_6, ia_7, za_7, ia_8, za_8, ia_9, za_9, ia_10, za_10, ia_11, za_11, ia_12, za_12, ia_13, za_13, ia_14, za_14, ia_15, za_15, ib_0, ib_1, zb_1, ic_0, ic_1, ic_2, ic_3, zc_1, zc_2, zc_3, id_0, id_1, id_2, id_3, zd_1, zd_2, zd_3, L_0, L_1, L_2, L_3, L_4, L_5, L_6, L_7, L_8, L_9, L_10, L_11, L_12, L_13, L_14, L_15, L_16, L_17, L_18, L_19, L_20, L_24, L_27, L_30, L_31, L_32, L_35, L_36, L_40, L_41, L_43, L_44, L_45, L_46, L_47, L_48, L_50, L_54, L_57, L_58, L_59, L_60, L_61, L_62, L_63, L_91, L_93, L_96, L_97, L_98, L_99, L_100, L_103, L_122, L_145, L_150, L_200, L_255, L_600, L_999, L_1000, L_2000, L_9999, L_10000, L_32767, L_12345, oI_s, oI_n, L_mn, if_true, if_false, ite_true, ite_false, Bool.false_eq_true, Nat.reduceEqDiff, Nat.reduceLeDiff, Nat.reduceLT, Nat.reduceAdd, Nat.reduceSub, Nat.reduceMul, Nat.le_refl, Nat.lt_irrefl, Nat.not_lt_zero, hE.nu, bi_1, bi_or]
      refine ⟨fun z => absurd z (by omega), fun _ => K_isRight hE hb (by omega) (fun q => ?_) (fun q => ?_)⟩
      · rw [if_pos q] at ih
        exact ⟨fun z => absurd z (by decide), fun _ => ih⟩
      · rw [if_neg (by rw [q]; decide)] at ih
        exact ⟨fun _ => ih, fun z => absurd rfl z⟩
  apply eX1_rightMoves
  unfold vX1_rightMoves_0
  exact loop 0 (by omega)
theorem R_movedNow {d n m : Nat} {T : Tb} {C B : Nat → Nat} {w : q_Sm} {Q : Int32 → q_Sm → Prop} {X : s_Xo} (hE : RE T C n w) (hb : rB B m w) (h : Q (nI (mvB T B m (T 7 2))) w) : s_EvI (d + 3) 0 mX12_movedNow w [.ref 79] Q X := by
  obtain ⟨hm, e0, e1, e2⟩ := hb
  have hnu := tb_nu hE.1
  have loop : ∀ i, i ≤ T 7 2 → s_Ex (d + 3) 0 mX12_movedNow 4 [some (.ref 79), some (.int (nI (mvB T B m i))), some (.int (nI i)), none, none] [] w (s_I Q) X := by
    refine n_down ?_ ?_
    · apply xX12_movedNow_4
      unfold vX12_movedNow_4
      try simp (disch := omega) only [s_Ii, s_Jj, s_Vn, forall_eq, L_m1, nI_add, nI_clamp, nI_leI, nI_ltI, nI_eq, vp_nI, pk_mul, pk_sub, Nat.zero_add, Nat.add_zero, wr_2, Classical.not_not, true_and, and_true, ne_eq, false_implies, true_implies, implies_true, not_true_eq_false, not_false_eq_true, ia_0, ia_1, za_1, ia_2, za_2, ia_3, za_3, ia_4, za_4, ia_5, za_5, ia_6, za_6, ia_7, za_7, ia_8, za_8, ia_9, za_9, ia_10, za_10, ia_11, za_11, ia_12, za_12, ia_13, za_13, ia_14, za_14, ia_15, za_15, ib_0, ib_1, zb_1, ic_0, ic_1, ic_2, ic_3, zc_1, zc_2, zc_3, id_0, id_1, id_2, id_3, zd_1, zd_2, zd_3, L_0, L_1, L_2, L_3, L_4, L_5, L_6, L_7, L_8, L_9, L_10, L_11, L_12, L_13, L_14, L_15, L_16, L_17, L_18, L_19, L_20, L_24, L_27, L_30, L_31, L_32, L_35, L_36, L_40, L_41, L_43, L_44, L_45, L_46, L_47, L_48, L_50, L_54, L_57, L_58, L_59, L_60, L_61, L_62, L_63, L_91, L_93, L_96, L_97, L_98, L_99, L_100, L_103, L_122, L_145, L_150, L_200, L_255, L_600, L_999, L_1000, L_2000, L_9999, L_10000, L_32767, L_12345, oI_s, oI_n, L_mn, if_true, if_false, ite_true, ite_false, Bool.false_eq_true, Nat.reduceEqDiff, Nat.reduceLeDiff, Nat.reduceLT, Nat.reduceAdd, Nat.reduceSub, Nat.reduceMul, Nat.le_refl, Nat.lt_irrefl, Nat.not_lt_zero, hE.nu]
      exact h
    · intro i hi ih
      unfold mvB at ih
      have inner : ∀ j, j ≤ m → s_Ex (d + 3) 0 mX12_movedNow 17 [some (.ref 79), some (.int (nI (mvB T B m i))), some (.int (nI i)), some (.int (nI (if rtb T B i j = true then 1 else 0))), some (.int (nI j))] [] w (s_I Q) X := by
        refine n_down ?_ ?_
        · apply xX12_movedNow_17
          unfold vX12_movedNow_17
          cases er : rtb T B i m with
          | true =>
            rw [if_pos er] at ih
            try simp (disch := omega) only [s_Ii, s_Jj, s_Vn, forall_eq, L_m1, nI_add, nI_clamp, nI_leI, nI_ltI, nI_eq, vp_nI, pk_mul, pk_sub, Nat.zero_add, Nat.add_zero, wr_2, Classical.not_not, true_and, and_true, ne_eq, false_implies, true_implies, implies_true, not_true_eq_false, not_false_eq_true, ia_0, ia_1, za_1, ia_2, za_2, ia_3, za_3, ia_4, za_4, ia_5, za_5, ia_6, za_6, ia_7, za_7, ia_8, za_8, ia_9, za_9, ia_10, za_10, ia_11, za_11, ia_12, za_12, ia_13, za_13, ia_14, za_14, ia_15, za_15, ib_0, ib_1, zb_1, ic_0, ic_1, ic_2, ic_3, zc_1, zc_2, zc_3, id_0, id_1, id_2, id_3, zd_1, zd_2, zd_3, L_0, L_1, L_2, L_3, L_4, L_5, L_6, L_7, L_8, L_9, L_10, L_11, L_12, L_13, L_14, L_15, L_16, L_17, L_18, L_19, L_20, L_24, L_27, L_30, L_31, L_32, L_35, L_36, L_40, L_41, L_43, L_44, L_45, L_46, L_47, L_48, L_50, L_54, L_57, L_58, L_59, L_60, L_61, L_62, L_63, L_91, L_93, L_96, L_97, L_98, L_99, L_100, L_103, L_122, L_145, L_150, L_200, L_255, L_600, L_999, L_1000, L_2000, L_9999, L_10000, L_32767, L_12345, oI_s, oI_n, L_mn, if_true, if_false, ite_true, ite_false, Bool.false_eq_true, Nat.reduceEqDiff, Nat.reduceLeDiff, Nat.reduceLT, Nat.reduceAdd, Nat.reduceSub, Nat.reduceMul, Nat.le_refl, Nat.lt_irrefl, Nat.not_lt_zero, e0, bi_1, bi_or]
            exact ih
          | false =>
            rw [if_neg (by rw [er]; decide)] at ih
            try simp (disch := omega) only [s_Ii, s_Jj, s_Vn, forall_eq, L_m1, nI_add, nI_clamp, nI_leI, nI_ltI, nI_eq, vp_nI, pk_mul, pk_sub, Nat.zero_add, Nat.add_zero, wr_2, Classical.not_not, true_and, and_true, ne_eq, false_implies, true_implies, implies_true, not_true_eq_false, not_false_eq_true, ia_0, ia_1, za_1, ia_2, za_2, ia_3, za_3, ia_4, za_4, ia_5, za_5, ia_6, za_6, ia_7, za_7, ia_8, za_8, ia_9, za_9, ia_10, za_10, ia_11, za_11, ia_12, za_12, ia_13, za_13, ia_14, za_14, ia_15, za_15, ib_0, ib_1, zb_1, ic_0, ic_1, ic_2, ic_3, zc_1, zc_2, zc_3, id_0, id_1, id_2, id_3, zd_1, zd_2, zd_3, L_0, L_1, L_2, L_3, L_4, L_5, L_6, L_7, L_8, L_9, L_10, L_11, L_12, L_13, L_14, L_15, L_16, L_17, L_18, L_19, L_20, L_24, L_27, L_30, L_31, L_32, L_35, L_36, L_40, L_41, L_43, L_44, L_45, L_46, L_47, L_48, L_50, L_54, L_57, L_58, L_59, L_60, L_61, L_62, L_63, L_91, L_93, L_96, L_97, L_98, L_99, L_100, L_103, L_122, L_145, L_150, L_200, L_255, L_600, L_999, L_1000, L_2000, L_9999, L_10000, L_32767, L_12345, oI_s, oI_n, L_mn, if_true, if_false, ite_true, ite_false, Bool.false_eq_true, Nat.reduceEqDiff, Nat.reduceLeDiff, Nat.reduceLT, Nat.reduceAdd, Nat.reduceSub, Nat.reduceMul, Nat.le_refl, Nat.lt_irrefl, Nat.not_lt_zero, e0, bi_1, bi_or, Nat.or_zero]
            exact ih
        · intro j hj ih2
          obtain ⟨f1, f2, f3⟩ := e1 j hj
          obtain ⟨g1, g2, g3⟩ := e2 j hj
          have hl := m_light_le hE.1 (B (3 * j) + i) g2
          apply xX12_movedNow_17
          unfold vX12_movedNow_17
          cases er : rtb T B i j with
          | true =>
            have e9 : rtb T B i (j + 1) = decide (m_light T (B (3 * j) + i) (B (3 * j + 1)) = B (3 * j + 2)) := by
              unfold rtb; rw [er]; rfl
            rw [e9] at ih2
            try simp (disch := omega) only [s_Ii, s_Jj, s_Vn, forall_eq, L_m1, nI_add, nI_clamp, nI_leI, nI_ltI, nI_eq, vp_nI, pk_mul, pk_sub, Nat.zero_add, Nat.add_zero, wr_2, Classical.not_not, true_and, and_true, ne_eq, false_implies, true_implies, implies_true, not_true_eq_false, not_false_eq_true, ia_0, ia_1, za_1, ia_2, za_2, ia_3, za_3, ia_4, za_4, ia_5, za_5, ia_6, za_6, ia_7, za_7, ia_8, za_8, ia_9, za_9, ia_10, za_10, ia_11, za_11, ia_12, za_12, ia_13, za_13, ia_14, za_14, ia_15, za_15, ib_0, ib_1, zb_1, ic_0, ic_1, ic_2, ic_3, zc_1, zc_2, zc_3, id_0, id_1, id_2, id_3, zd_1, zd_2, zd_3, L_0, L_1, L_2, L_3, L_4, L_5, L_6, L_7, L_8, L_9, L_10, L_11, L_12, L_13, L_14, L_15, L_16, L_17, L_18, L_19, L_20, L_24, L_27, L_30, L_31, L_32, L_35, L_36, L_40, L_41, L_43, L_44, L_45, L_46, L_47, L_48, L_50, L_54, L_57, L_58, L_59, L_60, L_61, L_62, L_63, L_91, L_93, L_96, L_97, L_98, L_99, L_100, L_103, L_122, L_145, L_150, L_200, L_255, L_600, L_999, L_1000, L_2000, L_9999, L_10000, L_32767, L_12345, oI_s, oI_n, L_mn, if_true, if_false, ite_true, ite_false, Bool.false_eq_true, Nat.reduceEqDiff, Nat.reduceLeDiff, Nat.reduceLT, Nat.reduceAdd, Nat.reduceSub, Nat.reduceMul, Nat.le_refl, Nat.lt_irrefl, Nat.not_lt_zero, e0, f1, f2]
            refine ⟨fun z => absurd z (by omega), fun _ => ⟨by omega, by omega, R_lightOf hE (by omega) g2 ?_⟩⟩
            try simp (disch := omega) only [s_Ii, s_Jj, s_Vn, forall_eq, L_m1, nI_add, nI_clamp, nI_leI, nI_ltI, nI_eq, vp_nI, pk_mul, pk_sub, Nat.zero_add, Nat.add_zero, wr_2, Classical.not_not, true_and, and_true, ne_eq, false_implies, true_implies, implies_true, not_true_eq_false, not_false_eq_true, ia_0, ia_1, za_1, ia_2, za_2, ia_3, za_3, ia_4, za_4, ia_5, za_5, ia_6, za_6, ia_7, za_7, ia_8, za_8, ia_9, za_9, ia_10, za_10, ia_11, za_11, ia_12, za_12, ia_13, za_13, ia_14, za_14, ia_15, za_15, ib_0, ib_1, zb_1, ic_0, ic_1, ic_2, ic_3, zc_1, zc_2, zc_3, id_0, id_1, id_2, id_3, zd_1, zd_2, zd_3, L_0, L_1, L_2, L_3, L_4, L_5, L_6, L_7, L_8, L_9, L_10, L_11, L_12, L_13, L_14, L_15, L_16, L_17, L_18, L_19, L_20, L_24, L_27, L_30, L_31, L_32, L_35, L_36, L_40, L_41, L_43, L_44, L_45, L_46, L_47, L_48, L_50, L_54, L_57, L_58, L_59, L_60, L_61, L_62, L_63, L_91, L_93, L_96, L_97, L_98, L_99, L_100, L_103, L_122, L_145, L_150, L_200, L_255, L_600, L_999, L_1000, L_2000, L_9999, L_10000, L_32767, L_12345, oI_s, oI_n, L_mn, if_true, if_false, ite_true, ite_false, Bool.false_eq_true, Nat.reduceEqDiff, Nat.reduceLeDiff, Nat.reduceLT, Nat.reduceAdd, Nat.reduceSub, Nat.reduceMul, Nat.le_refl, Nat.lt_irrefl, Nat.not_lt_zero, f3]
            refine ⟨by omega, fun z => ?_, fun z => ?_⟩
            · simp only [z, decide_false, Bool.false_eq_true, if_false] at ih2
              exact ih2
            · simp only [z, decide_true, if_true] at ih2
              exact ih2
          | false =>
            rw [show rtb T B i (j + 1) = false from rtb_f er _ (by omega)] at ih2
            try simp (disch := omega) only [s_Ii, s_Jj, s_Vn, forall_eq, L_m1, nI_add, nI_clamp, nI_leI, nI_ltI, nI_eq, vp_nI, pk_mul, pk_sub, Nat.zero_add, Nat.add_zero, wr_2, Classical.not_not, true_and, and_true, ne_eq, false_implies, true_implies, implies_true, not_true_eq_false, not_false_eq_true, ia_0, ia_1, za_1, ia_2, za_2, ia_3, za_3, ia_4, za_4, ia_5, za_5, ia_6, za_6, ia_7, za_7, ia_8, za_8, ia_9, za_9, ia_10, za_10, ia_11, za_11, ia_12, za_12, ia_13, za_13, ia_14, za_14, ia_15, za_15, ib_0, ib_1, zb_1, ic_0, ic_1, ic_2, ic_3, zc_1, zc_2, zc_3, id_0, id_1, id_2, id_3, zd_1, zd_2, zd_3, L_0, L_1, L_2, L_3, L_4, L_5, L_6, L_7, L_8, L_9, L_10, L_11, L_12, L_13, L_14, L_15, L_16, L_17, L_18, L_19, L_20, L_24, L_27, L_30, L_31, L_32, L_35, L_36, L_40, L_41, L_43, L_44, L_45, L_46, L_47, L_48, L_50, L_54, L_57, L_58, L_59, L_60, L_61, L_62, L_63, L_91, L_93, L_96, L_97, L_98, L_99, L_100, L_103, L_122, L_145, L_150, L_200, L_255, L_600, L_999, L_1000, L_2000, L_9999, L_10000, L_32767, L_12345, oI_s, oI_n, L_mn, if_true, if_false, ite_true, ite_false, Bool.false_eq_true, Nat.reduceEqDiff, Nat.reduceLeDiff, Nat.reduceLT, Nat.reduceAdd, Nat.reduceSub, Nat.reduceMul, Nat.le_refl, Nat.lt_irrefl, Nat.not_lt_zero, e0]
            simp only [Bool.false_eq_true, if_false] at ih2
            exact ⟨fun z => absurd z (by omega), fun _ => ih2⟩
      apply xX12_movedNow_4
      unfold vX12_movedNow_4
      try simp (disch := omega) only [s_Ii, s_Jj, s_Vn, forall_eq, L_m1, nI_add, nI_clamp, nI_leI, nI_ltI, nI_eq, vp_nI, pk_mul, pk_sub, Nat.zero_add, Nat.add_zero, wr_2, Classical.not_not, true_and, and_true, ne_eq, false_implies, true_implies, implies_true, not_true_eq_false, not_false_eq_true, ia_0, ia_1, za_1, ia_2, za_2, ia_3, za_3, ia_4, za_4, ia_5, za_5, ia_6, za_6, ia_7, za_7, ia_8, za_8, ia_9, za_9, ia_10, za_10, ia_11, za_11, ia_12, za_12, ia_13, za_13, ia_14, za_14, ia_15, za_15, ib_0, ib_1, zb_1, ic_0, ic_1, ic_2, ic_3, zc_1, zc_2, zc_3, id_0, id_1, id_2, id_3, zd_1, zd_2, zd_3, L_0, L_1, L_2, L_3, L_4, L_5, L_6, L_7, L_8, L_9, L_10, L_11, L_12, L_13, L_14, L_15, L_16, L_17, L_18, L_19, L_20, L_24, L_27, L_30, L_31, L_32, L_35, L_36, L_40, L_41, L_43, L_44, L_45, L_46, L_47, L_48, L_50, L_54, L_57, L_58, L_59, L_60, L_61, L_62, L_63, L_91, L_93, L_96, L_97, L_98, L_99, L_100, L_103, L_122, L_145, L_150, L_200, L_255, L_600, L_999, L_1000, L_2000, L_9999, L_10000, L_32767, L_12345, oI_s, oI_n, L_mn, if_true, if_false, ite_true, ite_false, Bool.false_eq_true, Nat.reduceEqDiff, Nat.reduceLeDiff, Nat.reduceLT, Nat.reduceAdd, Nat.reduceSub, Nat.reduceMul, Nat.le_refl, Nat.lt_irrefl, Nat.not_lt_zero, hE.nu]
      exact ⟨fun z => absurd z (by omega), fun _ => inner 0 (by omega)⟩
  apply eX12_movedNow
  unfold vX12_movedNow_0
  exact loop 0 (by omega)
/-- what is in a line -/
def inl1 (B : Nat → Nat) (e k : Nat) : Nat → Bool
  | 0 => false
  | i + 1 => inl1 B e k i || decide (B (3 * i) = e ∧ B (3 * i + 1) = k)
theorem inl_t {B : Nat → Nat} {e k i : Nat} (h : inl1 B e k i = true) : ∀ j, i ≤ j → inl1 B e k j = true := by
  intro j
  induction j with
  | zero => intro hj; rw [show i = 0 by omega] at h; exact h
  | succ j ih =>
    intro hj
    by_cases q : i = j + 1
    · rw [← q]; exact h
    · unfold inl1
      rw [ih (by omega)]
      rfl
theorem K_isInLine {d b m e k : Nat} {B : Nat → Nat} {w : q_Sm} {Q : Int32 → q_Sm → Prop} {X : s_Xo} (hb : cB b B m w) (he : e ≤ 12) (hk : k < 4) (h : Q (nI (if inl1 B e k m = true then 1 else 0)) w) : s_EvI (d + 1) 0 mX1_isInLine w [.ref b, .int (nI e), .int (nI k)] Q X := by
  obtain ⟨hbb, hm, e0, e1, e2⟩ := hb
  have loop : ∀ i, i ≤ m → inl1 B e k i = false → s_Ex (d + 1) 0 mX1_isInLine 2 [some (.ref b), some (.int (nI e)), some (.int (nI k)), some (.int (nI i))] [] w (s_I Q) X := by
    refine n_down ?_ ?_
    · intro hz
      rw [hz] at h
      apply xX1_isInLine_2
      unfold vX1_isInLine_2
      try simp (disch := omega) only [s_Ii, s_Jj, s_Vn, forall_eq, L_m1, nI_add, nI_clamp, nI_leI, nI_ltI, nI_eq, vp_nI, pk_mul, pk_sub, Nat.zero_add, Nat.add_zero, wr_2, Classical.not_not, true_and, and_true, ne_eq, false_implies, true_implies, implies_true, not_true_eq_false, not_false_eq_true, ia_0, ia_1, za_1, ia_2, za_2, ia_3, za_3, ia_4, za_4, ia_5, za_5, ia_6, za_6, ia_7, za_7, ia_8, za_8, ia_9, za_9, ia_10, za_10, ia_11, za_11, ia_12, za_12, ia_13, za_13, ia_14, za_14, ia_15, za_15, ib_0, ib_1, zb_1, ic_0, ic_1, ic_2, ic_3, zc_1, zc_2, zc_3, id_0, id_1, id_2, id_3, zd_1, zd_2, zd_3, L_0, L_1, L_2, L_3, L_4, L_5, L_6, L_7, L_8, L_9, L_10, L_11, L_12, L_13, L_14, L_15, L_16, L_17, L_18, L_19, L_20, L_24, L_27, L_30, L_31, L_32, L_35, L_36, L_40, L_41, L_43, L_44, L_45, L_46, L_47, L_48, L_50, L_54, L_57, L_58, L_59, L_60, L_61, L_62, L_63, L_91, L_93, L_96, L_97, L_98, L_99, L_100, L_103, L_122, L_145, L_150, L_200, L_255, L_600, L_999, L_1000, L_2000, L_9999, L_10000, L_32767, L_12345, oI_s, oI_n, L_mn, if_true, if_false, ite_true, ite_false, Bool.false_eq_true, Nat.reduceEqDiff, Nat.reduceLeDiff, Nat.reduceLT, Nat.reduceAdd, Nat.reduceSub, Nat.reduceMul, Nat.le_refl, Nat.lt_irrefl, Nat.not_lt_zero, e0]
      exact h
    · intro i hi ih hz
      obtain ⟨f1, f2, f3⟩ := e1 i hi
      obtain ⟨g1, g2, g3⟩ := e2 i hi
      have er : inl1 B e k (i + 1) = decide (B (3 * i) = e ∧ B (3 * i + 1) = k) := by
        unfold inl1; rw [hz]; rfl
      apply xX1_isInLine_2
      unfold vX1_isInLine_2
      try simp (disch := omega) only [s_Ii, s_Jj, s_Vn, forall_eq, L_m1, nI_add, nI_clamp, nI_leI, nI_ltI, nI_eq, vp_nI, pk_mul, pk_sub, Nat.zero_add, Nat.add_zero, wr_2, Classical.not_not, true_and, and_true, ne_eq, false_implies, true_implies, implies_true, not_true_eq_false, not_false_eq_true, ia_0, ia_1, za_1, ia_2, za_2, ia_3, za_3, ia_4, za_4, ia_5, za_5, ia_6, za_6, ia_7, za_7, ia_8, za_8, ia_9, za_9, ia_10, za_10, ia_11, za_11, ia_12, za_12, ia_13, za_13, ia_14, za_14, ia_15, za_15, ib_0, ib_1, zb_1, ic_0, ic_1, ic_2, ic_3, zc_1, zc_2, zc_3, id_0, id_1, id_2, id_3, zd_1, zd_2, zd_3, L_0, L_1, L_2, L_3, L_4, L_5, L_6, L_7, L_8, L_9, L_10, L_11, L_12, L_13, L_14, L_15, L_16, L_17, L_18, L_19, L_20, L_24, L_27, L_30, L_31, L_32, L_35, L_36, L_40, L_41, L_43, L_44, L_45, L_46, L_47, L_48, L_50, L_54, L_57, L_58, L_59, L_60, L_61, L_62, L_63, L_91, L_93, L_96, L_97, L_98, L_99, L_100, L_103, L_122, L_145, L_150, L_200, L_255, L_600, L_999, L_1000, L_2000, L_9999, L_10000, L_32767, L_12345, oI_s, oI_n, L_mn, if_true, if_false, ite_true, ite_false, Bool.false_eq_true, Nat.reduceEqDiff, Nat.reduceLeDiff, Nat.reduceLT, Nat.reduceAdd, Nat.reduceSub, Nat.reduceMul, Nat.le_refl, Nat.lt_irrefl, Nat.not_lt_zero, e0, f1, f2]
      refine ⟨fun z => absurd z (by omega), fun _ => ⟨by omega, fun z => ih ?_, fun z => ⟨by omega, fun z2 => ih ?_, fun z2 => ?_⟩⟩⟩
      · rw [er]; simp [z]
      · rw [er]; simp [z2]
      · rw [inl_t (i := i + 1) (by rw [er]; simp [z, z2]) m (by omega)] at h
        exact h
  apply eX1_isInLine
  unfold vX1_isInLine_0
  exact loop 0 (by omega) rfl
theorem R_isSeen {d m e k : Nat} {B : Nat → Nat} {w : q_Sm} {Q : Int32 → q_Sm → Prop} {X : s_Xo} (hb : rB B m w) (he : e ≤ 12) (hk : k < 4) (h : Q (nI (if inl1 B e k m = true then 1 else 0)) w) : s_EvI (d + 1) 0 mX12_isSeen w [.ref 79, .int (nI e), .int (nI k)] Q X := by
  obtain ⟨hm, e0, e1, e2⟩ := hb
  have loop : ∀ i, i ≤ m → inl1 B e k i = false → s_Ex (d + 1) 0 mX12_isSeen 2 [some (.ref 79), some (.int (nI e)), some (.int (nI k)), some (.int (nI i))] [] w (s_I Q) X := by
    refine n_down ?_ ?_
    · intro hz
      rw [hz] at h
      apply xX12_isSeen_2
      unfold vX12_isSeen_2
      try simp (disch := omega) only [s_Ii, s_Jj, s_Vn, forall_eq, L_m1, nI_add, nI_clamp, nI_leI, nI_ltI, nI_eq, vp_nI, pk_mul, pk_sub, Nat.zero_add, Nat.add_zero, wr_2, Classical.not_not, true_and, and_true, ne_eq, false_implies, true_implies, implies_true, not_true_eq_false, not_false_eq_true, ia_0, ia_1, za_1, ia_2, za_2, ia_3, za_3, ia_4, za_4, ia_5, za_5, ia_6, za_6, ia_7, za_7, ia_8, za_8, ia_9, za_9, ia_10, za_10, ia_11, za_11, ia_12, za_12, ia_13, za_13, ia_14, za_14, ia_15, za_15, ib_0, ib_1, zb_1, ic_0, ic_1, ic_2, ic_3, zc_1, zc_2, zc_3, id_0, id_1, id_2, id_3, zd_1, zd_2, zd_3, L_0, L_1, L_2, L_3, L_4, L_5, L_6, L_7, L_8, L_9, L_10, L_11, L_12, L_13, L_14, L_15, L_16, L_17, L_18, L_19, L_20, L_24, L_27, L_30, L_31, L_32, L_35, L_36, L_40, L_41, L_43, L_44, L_45, L_46, L_47, L_48, L_50, L_54, L_57, L_58, L_59, L_60, L_61, L_62, L_63, L_91, L_93, L_96, L_97, L_98, L_99, L_100, L_103, L_122, L_145, L_150, L_200, L_255, L_600, L_999, L_1000, L_2000, L_9999, L_10000, L_32767, L_12345, oI_s, oI_n, L_mn, if_true, if_false, ite_true, ite_false, Bool.false_eq_true, Nat.reduceEqDiff, Nat.reduceLeDiff, Nat.reduceLT, Nat.reduceAdd, Nat.reduceSub, Nat.reduceMul, Nat.le_refl, Nat.lt_irrefl, Nat.not_lt_zero, e0]
      exact h
    · intro i hi ih hz
      obtain ⟨f1, f2, f3⟩ := e1 i hi
      obtain ⟨g1, g2, g3⟩ := e2 i hi
      have er : inl1 B e k (i + 1) = decide (B (3 * i) = e ∧ B (3 * i + 1) = k) := by
        unfold inl1; rw [hz]; rfl
      apply xX12_isSeen_2
      unfold vX12_isSeen_2
      try simp (disch := omega) only [s_Ii, s_Jj, s_Vn, forall_eq, L_m1, nI_add, nI_clamp, nI_leI, nI_ltI, nI_eq, vp_nI, pk_mul, pk_sub, Nat.zero_add, Nat.add_zero, wr_2, Classical.not_not, true_and, and_true, ne_eq, false_implies, true_implies, implies_true, not_true_eq_false, not_false_eq_true, ia_0, ia_1, za_1, ia_2, za_2, ia_3, za_3, ia_4, za_4, ia_5, za_5, ia_6, za_6, ia_7, za_7, ia_8, za_8, ia_9, za_9, ia_10, za_10, ia_11, za_11, ia_12, za_12, ia_13, za_13, ia_14, za_14, ia_15, za_15, ib_0, ib_1, zb_1, ic_0, ic_1, ic_2, ic_3, zc_1, zc_2, zc_3, id_0, id_1, id_2, id_3, zd_1, zd_2, zd_3, L_0, L_1, L_2, L_3, L_4, L_5, L_6, L_7, L_8, L_9, L_10, L_11, L_12, L_13, L_14, L_15, L_16, L_17, L_18, L_19, L_20, L_24, L_27, L_30, L_31, L_32, L_35, L_36, L_40, L_41, L_43, L_44, L_45, L_46, L_47, L_48, L_50, L_54, L_57, L_58, L_59, L_60, L_61, L_62, L_63, L_91, L_93, L_96, L_97, L_98, L_99, L_100, L_103, L_122, L_145, L_150, L_200, L_255, L_600, L_999, L_1000, L_2000, L_9999, L_10000, L_32767, L_12345, oI_s, oI_n, L_mn, if_true, if_false, ite_true, ite_false, Bool.false_eq_true, Nat.reduceEqDiff, Nat.reduceLeDiff, Nat.reduceLT, Nat.reduceAdd, Nat.reduceSub, Nat.reduceMul, Nat.le_refl, Nat.lt_irrefl, Nat.not_lt_zero, e0, f1, f2]
      refine ⟨fun z => absurd z (by omega), fun _ => ⟨by omega, fun z => ih ?_, fun z => ⟨by omega, fun z2 => ih ?_, fun z2 => ?_⟩⟩⟩
      · rw [er]; simp [z]
      · rw [er]; simp [z2]
      · rw [inl_t (i := i + 1) (by rw [er]; simp [z, z2]) m (by omega)] at h
        exact h
  apply eX12_isSeen
  unfold vX12_isSeen_0
  exact loop 0 (by omega) rfl
/-- how many are alike -/
def alF (T : Tb) (g e k p : Nat) (s : Nat) : Nat := if g.testBit s = true ∧ m_light T (e + s) k = p then 1 else 0
def ma1 (T : Tb) (g e k : Nat) : Nat → Nat
  | 0 => 0
  | s + 1 => if g.testBit s = true then max (ma1 T g e k s) (sm (alF T g e k (m_light T (e + s) k)) (T 7 2)) else ma1 T g e k s
def wo1 (T : Tb) (g e k : Nat) : Nat → Nat
  | 0 => 0
  | s + 1 => if g.testBit s = true then max (wo1 T g e k s) (sm (alF T g e k (m_light T (e + s) k)) (s + 1)) else wo1 T g e k s
theorem sm_mono {f : Nat → Nat} {a : Nat} : ∀ b, a ≤ b → sm f a ≤ sm f b := by
  intro b
  induction b with
  | zero => intro h; rw [show a = 0 by omega]; exact Nat.le_refl _
  | succ b ih =>
    intro h
    by_cases q : a = b + 1
    · rw [q]; exact Nat.le_refl _
    · have := ih (by omega)
      show sm f a ≤ sm f b + f b
      omega
theorem wo_ma {T : Tb} {g e k : Nat} : wo1 T g e k (T 7 2) = ma1 T g e k (T 7 2) := by
  have h1 : ∀ j, j ≤ T 7 2 → wo1 T g e k j ≤ ma1 T g e k j := by
    intro j
    induction j with
    | zero => intro _; exact Nat.le_refl _
    | succ j ih =>
      intro hj
      have := ih (by omega)
      unfold wo1 ma1
      split
      · have := sm_mono (f := alF T g e k (m_light T (e + j) k)) (a := j + 1) (T 7 2) hj
        omega
      · exact this
  have h2 : ∀ j p, sm (alF T g e k p) j ≤ wo1 T g e k j := by
    intro j
    induction j with
    | zero => intro p; exact Nat.le_refl _
    | succ j ih =>
      intro p
      have := ih p
      unfold wo1
      by_cases q : g.testBit j = true ∧ m_light T (e + j) k = p
      · rw [if_pos q.1, q.2]
        exact Nat.le_max_right _ _
      · have e1 : sm (alF T g e k p) (j + 1) = sm (alF T g e k p) j := by
          show sm (alF T g e k p) j + alF T g e k p j = _
          rw [show alF T g e k p j = 0 from if_neg q]
          rfl
        rw [e1]
        split
        · omega
        · exact this
  have h3 : ∀ j, ma1 T g e k j ≤ wo1 T g e k (T 7 2) := by
    intro j
    induction j with
    | zero => exact Nat.zero_le _
    | succ j ih =>
      unfold ma1
      split
      · have := h2 (T 7 2) (m_light T (e + j) k)
        omega
      · exact ih
  have := h1 (T 7 2) (Nat.le_refl _)
  have := h3 (T 7 2)
  omega
theorem al_le {T : Tb} {g e k p : Nat} : ∀ n, sm (alF T g e k p) n ≤ n := by
  intro n
  have := sm_le (f := alF T g e k p) (b := 1) n (fun s _ => by unfold alF; split <;> omega)
  omega
theorem ma_le {T : Tb} {g e k : Nat} (ht : tb T) : ∀ j, ma1 T g e k j ≤ 12 := by
  have hnu := tb_nu ht
  intro j
  induction j with
  | zero => exact Nat.zero_le _
  | succ j ih =>
    unfold ma1
    split
    · have := al_le (T := T) (g := g) (e := e) (k := k) (p := m_light T (e + j) k) (T 7 2)
      omega
    · exact ih
theorem K_alike {d o l n g e k p : Nat} {T : Tb} {β C : Nat → Nat} {w : q_Sm} {Q : Int32 → q_Sm → Prop} {X : s_Xo} (hE : KE o l T β C n w) (hg : g < 2 ^ 12) (he : e ≤ 12) (hk : k < 4) (hp : p ≤ 40) (h : Q (nI (sm (alF T g e k p) (T 7 2))) w) : s_EvI (d + 2) 0 mX1_alike w [.ref o, .int (nI g), .int (nI e), .int (nI k), .int (nI p)] Q X := by
  have hoo := hE.1
  have hnu := tb_nu hE.2.2.1
  have loop : ∀ i, i ≤ T 7 2 → s_Ex (d + 2) 0 mX1_alike 6 [some (.ref o), some (.int (nI g)), some (.int (nI e)), some (.int (nI k)), some (.int (nI p)), some (.int (nI (sm (alF T g e k p) i))), some (.int (nI i))] [] w (s_I Q) X := by
    refine n_down ?_ ?_
    · apply xX1_alike_6
      unfold vX1_alike_6
      try simp (disch := omega) only [s_Ii, s_Jj, s_Vn, forall_eq, L_m1, nI_add, nI_clamp, nI_leI, nI_ltI, nI_eq, vp_nI, pk_mul, pk_sub, Nat.zero_add, Nat.add_zero, wr_2, Classical.not_not, true_and, and_true, ne_eq, false_implies, true_implies, implies_true, not_true_eq_false, not_false_eq_true, ia_0, ia_1, za_1, ia_2, za_2, ia_3, za_3, ia_4, za_4, ia_5, za_5, ia_6, za_6, ia_7, za_7, ia_8, za_8, ia_9, za_9, ia_10, za_10, ia_11, za_11, ia_12, za_12, ia_13, za_13, ia_14, za_14, ia_15, za_15, ib_0, ib_1, zb_1, ic_0, ic_1, ic_2, ic_3, zc_1, zc_2, zc_3, id_0, id_1, id_2, id_3, zd_1, zd_2, zd_3, L_0, L_1, L_2, L_3, L_4, L_5, L_6, L_7, L_8, L_9, L_10, L_11, L_12, L_13, L_14, L_15, L_16, L_17, L_18, L_19, L_20, L_24, L_27, L_30, L_31, L_32, L_35, L_36, L_40, L_41, L_43, L_44, L_45, L_46, L_47, L_48, L_50, L_54, L_57, L_58, L_59, L_60, L_61, L_62, L_63, L_91, L_93, L_96, L_97, L_98, L_99, L_100, L_103, L_122, L_145, L_150, L_200, L_255, L_600, L_999, L_1000, L_2000, L_9999, L_10000, L_32767, L_12345, oI_s, oI_n, L_mn, if_true, if_false, ite_true, ite_false, Bool.false_eq_true, Nat.reduceEqDiff, Nat.reduceLeDiff, Nat.reduceLT, Nat.reduceAdd, Nat.reduceSub, Nat.reduceMul, Nat.le_refl, Nat.lt_irrefl, Nat.not_lt_zero, hE.nu]
      exact h
    · intro i hi ih
      have hl := m_light_le hE.2.2.1 (e + i) hk
      have e1 : sm (alF T g e k p) (i + 1) = sm (alF T g e k p) i + alF T g e k p i := rfl
      rw [e1] at ih
      apply xX1_alike_6
      unfold vX1_alike_6
      cases et : g.testBit i with
      | true =>
        try simp (disch := omega) only [s_Ii, s_Jj, s_Vn, forall_eq, L_m1, nI_add, nI_clamp, nI_leI, nI_ltI, nI_eq, vp_nI, pk_mul, pk_sub, Nat.zero_add, Nat.add_zero, wr_2, Classical.not_not, true_and, and_true, ne_eq, false_implies, true_implies, implies_true, not_true_eq_false, not_false_eq_true, ia_0, ia_1, za_1, ia_2, za_2, ia_3, za_3, ia_4, za_4, ia_5, za_5, ia_6, za_6, ia_7, za_7, ia_8, za_8, ia_9, za_9, ia_10, za_10, ia_11, za_11, ia_12, za_12, ia_13, za_13, ia_14, za_14, ia_15, za_15, ib_0, ib_1, zb_1, ic_0, ic_1, ic_2, ic_3, zc_1, zc_2, zc_3, id_0, id_1, id_2, id_3, zd_1, zd_2, zd_3, L_0, L_1, L_2, L_3, L_4, L_5, L_6, L_7, L_8, L_9, L_10, L_11, L_12, L_13, L_14, L_15, L_16, L_17, L_18, L_19, L_20, L_24, L_27, L_30, L_31, L_32, L_35, L_36, L_40, L_41, L_43, L_44, L_45, L_46, L_47, L_48, L_50, L_54, L_57, L_58, L_59, L_60, L_61, L_62, L_63, L_91, L_93, L_96, L_97, L_98, L_99, L_100, L_103, L_122, L_145, L_150, L_200, L_255, L_600, L_999, L_1000, L_2000, L_9999, L_10000, L_32767, L_12345, oI_s, oI_n, L_mn, if_true, if_false, ite_true, ite_false, Bool.false_eq_true, Nat.reduceEqDiff, Nat.reduceLeDiff, Nat.reduceLT, Nat.reduceAdd, Nat.reduceSub, Nat.reduceMul, Nat.le_refl, Nat.lt_irrefl, Nat.not_lt_zero, hE.nu, bi_bit, et]
        refine ⟨fun z => absurd z (by omega), fun _ => K_shine hE (by omega) hk ?_⟩
        try simp (disch := omega) only [s_Ii, s_Jj, s_Vn, forall_eq, L_m1, nI_add, nI_clamp, nI_leI, nI_ltI, nI_eq, vp_nI, pk_mul, pk_sub, Nat.zero_add, Nat.add_zero, wr_2, Classical.not_not, true_and, and_true, ne_eq, false_implies, true_implies, implies_true, not_true_eq_false, not_false_eq_true, ia_0, ia_1, za_1, ia_2, za_2, ia_3, za_3, ia_4, za_4, ia_5, za_5, ia_6, za_6, ia_7, za_7, ia_8, za_8, ia_9, za_9, ia_10, za_10, ia_11, za_11, ia_12, za_12, ia_13, za_13, ia_14, za_14, ia_15, za_15, ib_0, ib_1, zb_1, ic_0, ic_1, ic_2, ic_3, zc_1, zc_2, zc_3, id_0, id_1, id_2, id_3, zd_1, zd_2, zd_3, L_0, L_1, L_2, L_3, L_4, L_5, L_6, L_7, L_8, L_9, L_10, L_11, L_12, L_13, L_14, L_15, L_16, L_17, L_18, L_19, L_20, L_24, L_27, L_30, L_31, L_32, L_35, L_36, L_40, L_41, L_43, L_44, L_45, L_46, L_47, L_48, L_50, L_54, L_57, L_58, L_59, L_60, L_61, L_62, L_63, L_91, L_93, L_96, L_97, L_98, L_99, L_100, L_103, L_122, L_145, L_150, L_200, L_255, L_600, L_999, L_1000, L_2000, L_9999, L_10000, L_32767, L_12345, oI_s, oI_n, L_mn, if_true, if_false, ite_true, ite_false, Bool.false_eq_true, Nat.reduceEqDiff, Nat.reduceLeDiff, Nat.reduceLT, Nat.reduceAdd, Nat.reduceSub, Nat.reduceMul, Nat.le_refl, Nat.lt_irrefl, Nat.not_lt_zero]
        refine ⟨fun z => ?_, fun z => ?_⟩
        · rw [show alF T g e k p i = 0 from if_neg (fun q => z q.2)] at ih; exact ih
        · rw [show alF T g e k p i = 1 from if_pos ⟨et, z⟩] at ih; exact ih
      | false =>
        rw [show alF T g e k p i = 0 from if_neg (fun q => by rw [et] at q; cases q.1)] at ih
        try simp (disch := omega) only [s_Ii, s_Jj, s_Vn, forall_eq, L_m1, nI_add, nI_clamp, nI_leI, nI_ltI, nI_eq, vp_nI, pk_mul, pk_sub, Nat.zero_add, Nat.add_zero, wr_2, Classical.not_not, true_and, and_true, ne_eq, false_implies, true_implies, implies_true, not_true_eq_false, not_false_eq_true, ia_0, ia_1, za_1, ia_2, za_2, ia_3, za_3, ia_4, za_4, ia_5, za_5, ia_6, za_6, ia_7, za_7, ia_8, za_8, ia_9, za_9, ia_10, za_10, ia_11, za_11, ia_12, za_12, ia_13, za_13, ia_14, za_14, ia_15, za_15, ib_0, ib_1, zb_1, ic_0, ic_1, ic_2, ic_3, zc_1, zc_2, zc_3, id_0, id_1, id_2, id_3, zd_1, zd_2, zd_3, L_0, L_1, L_2, L_3, L_4, L_5, L_6, L_7, L_8, L_9, L_10, L_11, L_12, L_13, L_14, L_15, L_16, L_17, L_18, L_19, L_20, L_24, L_27, L_30, L_31, L_32, L_35, L_36, L_40, L_41, L_43, L_44, L_45, L_46, L_47, L_48, L_50, L_54, L_57, L_58, L_59, L_60, L_61, L_62, L_63, L_91, L_93, L_96, L_97, L_98, L_99, L_100, L_103, L_122, L_145, L_150, L_200, L_255, L_600, L_999, L_1000, L_2000, L_9999, L_10000, L_32767, L_12345, oI_s, oI_n, L_mn, if_true, if_false, ite_true, ite_false, Bool.false_eq_true, Nat.reduceEqDiff, Nat.reduceLeDiff, Nat.reduceLT, Nat.reduceAdd, Nat.reduceSub, Nat.reduceMul, Nat.le_refl, Nat.lt_irrefl, Nat.not_lt_zero, hE.nu, bi_bit, et]
        exact ⟨fun z => absurd z (by omega), fun _ => ih⟩
  apply eX1_alike
  unfold vX1_alike_0
  exact loop 0 (by omega)
theorem K_mostAlike {d o l n g e k : Nat} {T : Tb} {β C : Nat → Nat} {w : q_Sm} {Q : Int32 → q_Sm → Prop} {X : s_Xo} (hE : KE o l T β C n w) (hg : g < 2 ^ 12) (he : e ≤ 12) (hk : k < 4) (h : Q (nI (ma1 T g e k (T 7 2))) w) : s_EvI (d + 3) 0 mX1_mostAlike w [.ref o, .int (nI g), .int (nI e), .int (nI k)] Q X := by
  have hoo := hE.1
  have hnu := tb_nu hE.2.2.1
  have loop : ∀ i, i ≤ T 7 2 → s_Ex (d + 3) 0 mX1_mostAlike 6 [some (.ref o), some (.int (nI g)), some (.int (nI e)), some (.int (nI k)), some (.int (nI (ma1 T g e k i))), some (.int (nI i))] [] w (s_I Q) X := by
    refine n_down ?_ ?_
    · apply xX1_mostAlike_6
      unfold vX1_mostAlike_6
      try simp (disch := omega) only [s_Ii, s_Jj, s_Vn, forall_eq, L_m1, nI_add, nI_clamp, nI_leI, nI_ltI, nI_eq, vp_nI, pk_mul, pk_sub, Nat.zero_add, Nat.add_zero, wr_2, Classical.not_not, true_and, and_true, ne_eq, false_implies, true_implies, implies_true, not_true_eq_false, not_false_eq_true, ia_0, ia_1, za_1, ia_2, za_2, ia_3, za_3, ia_4, za_4, ia_5, za_5, ia_6, za_6, ia_7, za_7, ia_8, za_8, ia_9, za_9, ia_10, za_10, ia_11, za_11, ia_12, za_12, ia_13, za_13, ia_14, za_14, ia_15, za_15, ib_0, ib_1, zb_1, ic_0, ic_1, ic_2, ic_3, zc_1, zc_2, zc_3, id_0, id_1, id_2, id_3, zd_1, zd_2, zd_3, L_0, L_1, L_2, L_3, L_4, L_5, L_6, L_7, L_8, L_9, L_10, L_11, L_12, L_13, L_14, L_15, L_16, L_17, L_18, L_19, L_20, L_24, L_27, L_30, L_31, L_32, L_35, L_36, L_40, L_41, L_43, L_44, L_45, L_46, L_47, L_48, L_50, L_54, L_57, L_58, L_59, L_60, L_61, L_62, L_63, L_91, L_93, L_96, L_97, L_98, L_99, L_100, L_103, L_122, L_145, L_150, L_200, L_255, L_600, L_999, L_1000, L_2000, L_9999, L_10000, L_32767, L_12345, oI_s, oI_n, L_mn, if_true, if_false, ite_true, ite_false, Bool.false_eq_true, Nat.reduceEqDiff, Nat.reduceLeDiff, Nat.reduceLT, Nat.reduceAdd, Nat.reduceSub, Nat.reduceMul, Nat.le_refl, Nat.lt_irrefl, Nat.not_lt_zero, hE.nu]
      exact h
    · intro i hi ih
      have hl := m_light_le hE.2.2.1 (e + i) hk
      have hm := ma_le (g := g) (e := e) (k := k) hE.2.2.1 i
      have ha := al_le (T := T) (g := g) (e := e) (k := k) (p := m_light T (e + i) k) (T 7 2)
      unfold ma1 at ih
      apply xX1_mostAlike_6
      unfold vX1_mostAlike_6
      cases et : g.testBit i with
      | true =>
        rw [if_pos et] at ih
        try simp (disch := omega) only [s_Ii, s_Jj, s_Vn, forall_eq, L_m1, nI_add, nI_clamp, nI_leI, nI_ltI, nI_eq, vp_nI, pk_mul, pk_sub, Nat.zero_add, Nat.add_zero, wr_2, Classical.not_not, true_and, and_true, ne_eq, false_implies, true_implies, implies_true, not_true_eq_false, not_false_eq_true, ia_0, ia_1, za_1, ia_2, za_2, ia_3, za_3, ia_4, za_4, ia_5, za_5, ia_6, za_6, ia_7, za_7, ia_8, za_8, ia_9, za_9, ia_10, za_10, ia_11, za_11, ia_12, za_12, ia_13, za_13, ia_14, za_14, ia_15, za_15, ib_0, ib_1, zb_1, ic_0, ic_1, ic_2, ic_3, zc_1, zc_2, zc_3, id_0, id_1, id_2, id_3, zd_1, zd_2, zd_3, L_0, L_1, L_2, L_3, L_4, L_5, L_6, L_7, L_8, L_9, L_10, L_11, L_12, L_13, L_14, L_15, L_16, L_17, L_18, L_19, L_20, L_24, L_27, L_30, L_31, L_32, L_35, L_36, L_40, L_41, L_43, L_44, L_45, L_46, L_47, L_48, L_50, L_54, L_57, L_58, L_59, L_60, L_61, L_62, L_63, L_91, L_93, L_96, L_97, L_98, L_99, L_100, L_103, L_122, L_145, L_150, L_200, L_255, L_600, L_999, L_1000, L_2000, L_9999, L_10000, L_32767, L_12345, oI_s, oI_n, L_mn, if_true, if_false, ite_true, ite_false, Bool.false_eq_true, Nat.reduceEqDiff, Nat.reduceLeDiff, Nat.reduceLT, Nat.reduceAdd, Nat.reduceSub, Nat.reduceMul, Nat.le_refl, Nat.lt_irrefl, Nat.not_lt_zero, hE.nu, bi_bit, et]
        refine ⟨fun z => absurd z (by omega), fun _ => K_shine hE (by omega) hk (K_alike hE hg he hk hl (k_maxN (by omega) (by omega) ?_))⟩
        exact ih
      | false =>
        rw [if_neg (by rw [et]; decide)] at ih
        try simp (disch := omega) only [s_Ii, s_Jj, s_Vn, forall_eq, L_m1, nI_add, nI_clamp, nI_leI, nI_ltI, nI_eq, vp_nI, pk_mul, pk_sub, Nat.zero_add, Nat.add_zero, wr_2, Classical.not_not, true_and, and_true, ne_eq, false_implies, true_implies, implies_true, not_true_eq_false, not_false_eq_true, ia_0, ia_1, za_1, ia_2, za_2, ia_3, za_3, ia_4, za_4, ia_5, za_5, ia_6, za_6, ia_7, za_7, ia_8, za_8, ia_9, za_9, ia_10, za_10, ia_11, za_11, ia_12, za_12, ia_13, za_13, ia_14, za_14, ia_15, za_15, ib_0, ib_1, zb_1, ic_0, ic_1, ic_2, ic_3, zc_1, zc_2, zc_3, id_0, id_1, id_2, id_3, zd_1, zd_2, zd_3, L_0, L_1, L_2, L_3, L_4, L_5, L_6, L_7, L_8, L_9, L_10, L_11, L_12, L_13, L_14, L_15, L_16, L_17, L_18, L_19, L_20, L_24, L_27, L_30, L_31, L_32, L_35, L_36, L_40, L_41, L_43, L_44, L_45, L_46, L_47, L_48, L_50, L_54, L_57, L_58, L_59, L_60, L_61, L_62, L_63, L_91, L_93, L_96, L_97, L_98, L_99, L_100, L_103, L_122, L_145, L_150, L_200, L_255, L_600, L_999, L_1000, L_2000, L_9999, L_10000, L_32767, L_12345, oI_s, oI_n, L_mn, if_true, if_false, ite_true, ite_false, Bool.false_eq_true, Nat.reduceEqDiff, Nat.reduceLeDiff, Nat.reduceLT, Nat.reduceAdd, Nat.reduceSub, Nat.reduceMul, Nat.le_refl, Nat.lt_irrefl, Nat.not_lt_zero, hE.nu, bi_bit, et]
        exact ⟨fun z => absurd z (by omega), fun _ => ih⟩
  apply eX1_mostAlike
  unfold vX1_mostAlike_0
  exact loop 0 (by omega)
def aY (i _j : Nat) : Bool := i == 114
theorem R_worstAt {d n g e k : Nat} {T : Tb} {C : Nat → Nat} {w : q_Sm} {Q : Int32 → q_Sm → Prop} {X : s_Xo} (hE : RE T C n w) (hg : g < 2 ^ 12) (he : e ≤ 12) (hk : k < 4) (h : ∀ u, fr aY w u → Q (nI (ma1 T g e k (T 7 2))) u) : s_EvI (d + 2) 0 mX12_worstAt w [.ref 79, .int (nI e), .int (nI k), .int (nI g)] Q X := by
  have hnu := tb_nu hE.1
  rw [← wo_ma] at h
  have wl : ∀ i, i ≤ T 7 2 → wo1 T g e k i ≤ 12 := by
    intro i
    induction i with
    | zero => intro _; exact Nat.zero_le _
    | succ i ih =>
      intro hi
      have := ih (by omega)
      have := al_le (T := T) (g := g) (e := e) (k := k) (p := m_light T (e + i) k) (i + 1)
      unfold wo1
      split <;> omega
  have hlo : ∀ i j, i < 100 → aY i j = false := fun i j q => by simp [aY]; omega
  have loop : ∀ i, i ≤ T 7 2 → ∀ u, fr aY w u → (∀ p, p ≤ 40 → u.1 114 p = nI (sm (alF T g e k p) i)) → s_Ex (d + 2) 0 mX12_worstAt 30 [some (.ref 79), some (.int (nI e)), some (.int (nI k)), some (.int (nI g)), some (.int (nI (wo1 T g e k i))), some (.int (nI i)), none] [] u (s_I Q) X := by
    refine n_down ?_ ?_
    · intro u hu hp
      apply xX12_worstAt_30
      unfold vX12_worstAt_30
      try simp (disch := omega) only [s_Ii, s_Jj, s_Vn, forall_eq, L_m1, nI_add, nI_clamp, nI_leI, nI_ltI, nI_eq, vp_nI, pk_mul, pk_sub, Nat.zero_add, Nat.add_zero, wr_2, Classical.not_not, true_and, and_true, ne_eq, false_implies, true_implies, implies_true, not_true_eq_false, not_false_eq_true, ia_0, ia_1, za_1, ia_2, za_2, ia_3, za_3, ia_4, za_4, ia_5, za_5, ia_6, za_6, ia_7, za_7, ia_8, za_8, ia_9, za_9, ia_10, za_10, ia_11, za_11, ia_12, za_12, ia_13, za_13, ia_14, za_14, ia_15, za_15, ib_0, ib_1, zb_1, ic_0, ic_1, ic_2, ic_3, zc_1, zc_2, zc_3, id_0, id_1, id_2, id_3, zd_1, zd_2, zd_3, L_0, L_1, L_2, L_3, L_4, L_5, L_6, L_7, L_8, L_9, L_10, L_11, L_12, L_13, L_14, L_15, L_16, L_17, L_18, L_19, L_20, L_24, L_27, L_30, L_31, L_32, L_35, L_36, L_40, L_41, L_43, L_44, L_45, L_46, L_47, L_48, L_50, L_54, L_57, L_58, L_59, L_60, L_61, L_62, L_63, L_91, L_93, L_96, L_97, L_98, L_99, L_100, L_103, L_122, L_145, L_150, L_200, L_255, L_600, L_999, L_1000, L_2000, L_9999, L_10000, L_32767, L_12345, oI_s, oI_n, L_mn, if_true, if_false, ite_true, ite_false, Bool.false_eq_true, Nat.reduceEqDiff, Nat.reduceLeDiff, Nat.reduceLT, Nat.reduceAdd, Nat.reduceSub, Nat.reduceMul, Nat.le_refl, Nat.lt_irrefl, Nat.not_lt_zero, (hE.f hu hlo).nu]
      exact h u hu
    · intro i hi ih u hu hp
      have hEu := hE.f hu hlo
      have hl := m_light_le hE.1 (e + i) hk
      have hw := wl i (by omega)
      have ha := al_le (T := T) (g := g) (e := e) (k := k) (p := m_light T (e + i) k) i
      unfold wo1 at ih
      apply xX12_worstAt_30
      unfold vX12_worstAt_30
      cases et : g.testBit i with
      | true =>
        rw [if_pos et] at ih
        have e9 : sm (alF T g e k (m_light T (e + i) k)) (i + 1) = sm (alF T g e k (m_light T (e + i) k)) i + 1 := by
          show sm (alF T g e k (m_light T (e + i) k)) i + alF T g e k (m_light T (e + i) k) i = _
          rw [show alF T g e k (m_light T (e + i) k) i = 1 from if_pos ⟨et, rfl⟩]
        rw [e9] at ih
        have key : ∀ p, p ≤ 40 → (q_wI u 114 (m_light T (e + i) k) (nI (sm (alF T g e k (m_light T (e + i) k)) i + 1))).1 114 p = nI (sm (alF T g e k p) (i + 1)) := by
          intro p hp2
          rw [rd_e, if_pos rfl]
          split
          · rename_i q; rw [q, e9]
          · rename_i q
            rw [hp p hp2]
            show _ = nI (sm (alF T g e k p) i + alF T g e k p i)
            rw [show alF T g e k p i = 0 from if_neg (fun z => q z.2.symm)]
            rfl
        try simp (disch := omega) only [s_Ii, s_Jj, s_Vn, forall_eq, L_m1, nI_add, nI_clamp, nI_leI, nI_ltI, nI_eq, vp_nI, pk_mul, pk_sub, Nat.zero_add, Nat.add_zero, wr_2, Classical.not_not, true_and, and_true, ne_eq, false_implies, true_implies, implies_true, not_true_eq_false, not_false_eq_true, ia_0, ia_1, za_1, ia_2, za_2, ia_3, za_3, ia_4, za_4, ia_5, za_5, ia_6, za_6, ia_7, za_7, ia_8, za_8, ia_9, za_9, ia_10, za_10, ia_11, za_11, ia_12, za_12, ia_13, za_13, ia_14, za_14, ia_15, za_15, ib_0, ib_1, zb_1, ic_0, ic_1, ic_2, ic_3, zc_1, zc_2, zc_3, id_0, id_1, id_2, id_3, zd_1, zd_2, zd_3, L_0, L_1, L_2, L_3, L_4, L_5, L_6, L_7, L_8, L_9, L_10, L_11, L_12, L_13, L_14, L_15, L_16, L_17, L_18, L_19, L_20, L_24, L_27, L_30, L_31, L_32, L_35, L_36, L_40, L_41, L_43, L_44, L_45, L_46, L_47, L_48, L_50, L_54, L_57, L_58, L_59, L_60, L_61, L_62, L_63, L_91, L_93, L_96, L_97, L_98, L_99, L_100, L_103, L_122, L_145, L_150, L_200, L_255, L_600, L_999, L_1000, L_2000, L_9999, L_10000, L_32767, L_12345, oI_s, oI_n, L_mn, if_true, if_false, ite_true, ite_false, Bool.false_eq_true, Nat.reduceEqDiff, Nat.reduceLeDiff, Nat.reduceLT, Nat.reduceAdd, Nat.reduceSub, Nat.reduceMul, Nat.le_refl, Nat.lt_irrefl, Nat.not_lt_zero, hEu.nu, bi_bit, et]
        refine ⟨fun z => absurd z (by omega), fun _ => R_lightOf hEu (by omega) hk ?_⟩
        try simp (disch := omega) only [s_Ii, s_Jj, s_Vn, forall_eq, L_m1, nI_add, nI_clamp, nI_leI, nI_ltI, nI_eq, vp_nI, pk_mul, pk_sub, Nat.zero_add, Nat.add_zero, wr_2, Classical.not_not, true_and, and_true, ne_eq, false_implies, true_implies, implies_true, not_true_eq_false, not_false_eq_true, ia_0, ia_1, za_1, ia_2, za_2, ia_3, za_3, ia_4, za_4, ia_5, za_5, ia_6, za_6, ia_7, za_7, ia_8, za_8, ia_9, za_9, ia_10, za_10, ia_11, za_11, ia_12, za_12, ia_13, za_13, ia_14, za_14, ia_15, za_15, ib_0, ib_1, zb_1, ic_0, ic_1, ic_2, ic_3, zc_1, zc_2, zc_3, id_0, id_1, id_2, id_3, zd_1, zd_2, zd_3, L_0, L_1, L_2, L_3, L_4, L_5, L_6, L_7, L_8, L_9, L_10, L_11, L_12, L_13, L_14, L_15, L_16, L_17, L_18, L_19, L_20, L_24, L_27, L_30, L_31, L_32, L_35, L_36, L_40, L_41, L_43, L_44, L_45, L_46, L_47, L_48, L_50, L_54, L_57, L_58, L_59, L_60, L_61, L_62, L_63, L_91, L_93, L_96, L_97, L_98, L_99, L_100, L_103, L_122, L_145, L_150, L_200, L_255, L_600, L_999, L_1000, L_2000, L_9999, L_10000, L_32767, L_12345, oI_s, oI_n, L_mn, if_true, if_false, ite_true, ite_false, Bool.false_eq_true, Nat.reduceEqDiff, Nat.reduceLeDiff, Nat.reduceLT, Nat.reduceAdd, Nat.reduceSub, Nat.reduceMul, Nat.le_refl, Nat.lt_irrefl, Nat.not_lt_zero, hp, rd_s]
        refine ⟨by omega, by omega, by omega, fun z => ?_, fun z => ⟨by omega, ?_⟩⟩
        · rw [Nat.max_eq_left z] at ih
          exact ih _ (hu.put rfl) key
        · rw [Nat.max_eq_right (by omega)] at ih
          exact ih _ (hu.put rfl) key
      | false =>
        rw [if_neg (by rw [et]; decide)] at ih
        try simp (disch := omega) only [s_Ii, s_Jj, s_Vn, forall_eq, L_m1, nI_add, nI_clamp, nI_leI, nI_ltI, nI_eq, vp_nI, pk_mul, pk_sub, Nat.zero_add, Nat.add_zero, wr_2, Classical.not_not, true_and, and_true, ne_eq, false_implies, true_implies, implies_true, not_true_eq_false, not_false_eq_true, ia_0, ia_1, za_1, ia_2, za_2, ia_3, za_3, ia_4, za_4, ia_5, za_5, ia_6, za_6, ia_7, za_7, ia_8, za_8, ia_9, za_9, ia_10, za_10, ia_11, za_11, ia_12, za_12, ia_13, za_13, ia_14, za_14, ia_15, za_15, ib_0, ib_1, zb_1, ic_0, ic_1, ic_2, ic_3, zc_1, zc_2, zc_3, id_0, id_1, id_2, id_3, zd_1, zd_2, zd_3, L_0, L_1, L_2, L_3, L_4, L_5, L_6, L_7, L_8, L_9, L_10, L_11, L_12, L_13, L_14, L_15, L_16, L_17, L_18, L_19, L_20, L_24, L_27, L_30, L_31, L_32, L_35, L_36, L_40, L_41, L_43, L_44, L_45, L_46, L_47, L_48, L_50, L_54, L_57, L_58, L_59, L_60, L_61, L_62, L_63, L_91, L_93, L_96, L_97, L_98, L_99, L_100, L_103, L_122, L_145, L_150, L_200, L_255, L_600, L_999, L_1000, L_2000, L_9999, L_10000, L_32767, L_12345, oI_s, oI_n, L_mn, if_true, if_false, ite_true, ite_false, Bool.false_eq_true, Nat.reduceEqDiff, Nat.reduceLeDiff, Nat.reduceLT, Nat.reduceAdd, Nat.reduceSub, Nat.reduceMul, Nat.le_refl, Nat.lt_irrefl, Nat.not_lt_zero, hEu.nu, bi_bit, et]
        refine ⟨fun z => absurd z (by omega), fun _ => ih u hu (fun p hp2 => ?_)⟩
        rw [hp p hp2]
        show _ = nI (sm (alF T g e k p) i + alF T g e k p i)
        rw [show alF T g e k p i = 0 from if_neg (fun z => by rw [et] at z; cases z.1)]
        rfl
  have loop0 : ∀ i, i ≤ 41 → ∀ u, fr aY w u → (∀ p, p < i → u.1 114 p = nI 0) → s_Ex (d + 2) 0 mX12_worstAt 3 [some (.ref 79), some (.int (nI e)), some (.int (nI k)), some (.int (nI g)), some (.int (nI i)), none, none] [] u (s_I Q) X := by
    refine n_down ?_ ?_
    · intro u hu hp
      apply xX12_worstAt_3
      unfold vX12_worstAt_3
      try simp (disch := omega) only [s_Ii, s_Jj, s_Vn, forall_eq, L_m1, nI_add, nI_clamp, nI_leI, nI_ltI, nI_eq, vp_nI, pk_mul, pk_sub, Nat.zero_add, Nat.add_zero, wr_2, Classical.not_not, true_and, and_true, ne_eq, false_implies, true_implies, implies_true, not_true_eq_false, not_false_eq_true, ia_0, ia_1, za_1, ia_2, za_2, ia_3, za_3, ia_4, za_4, ia_5, za_5, ia_6, za_6, ia_7, za_7, ia_8, za_8, ia_9, za_9, ia_10, za_10, ia_11, za_11, ia_12, za_12, ia_13, za_13, ia_14, za_14, ia_15, za_15, ib_0, ib_1, zb_1, ic_0, ic_1, ic_2, ic_3, zc_1, zc_2, zc_3, id_0, id_1, id_2, id_3, zd_1, zd_2, zd_3, L_0, L_1, L_2, L_3, L_4, L_5, L_6, L_7, L_8, L_9, L_10, L_11, L_12, L_13, L_14, L_15, L_16, L_17, L_18, L_19, L_20, L_24, L_27, L_30, L_31, L_32, L_35, L_36, L_40, L_41, L_43, L_44, L_45, L_46, L_47, L_48, L_50, L_54, L_57, L_58, L_59, L_60, L_61, L_62, L_63, L_91, L_93, L_96, L_97, L_98, L_99, L_100, L_103, L_122, L_145, L_150, L_200, L_255, L_600, L_999, L_1000, L_2000, L_9999, L_10000, L_32767, L_12345, oI_s, oI_n, L_mn, if_true, if_false, ite_true, ite_false, Bool.false_eq_true, Nat.reduceEqDiff, Nat.reduceLeDiff, Nat.reduceLT, Nat.reduceAdd, Nat.reduceSub, Nat.reduceMul, Nat.le_refl, Nat.lt_irrefl, Nat.not_lt_zero]
      exact loop 0 (by omega) u hu (fun p hp2 => hp p (by omega))
    · intro i hi ih u hu hp
      apply xX12_worstAt_3
      unfold vX12_worstAt_3
      try simp (disch := omega) only [s_Ii, s_Jj, s_Vn, forall_eq, L_m1, nI_add, nI_clamp, nI_leI, nI_ltI, nI_eq, vp_nI, pk_mul, pk_sub, Nat.zero_add, Nat.add_zero, wr_2, Classical.not_not, true_and, and_true, ne_eq, false_implies, true_implies, implies_true, not_true_eq_false, not_false_eq_true, ia_0, ia_1, za_1, ia_2, za_2, ia_3, za_3, ia_4, za_4, ia_5, za_5, ia_6, za_6, ia_7, za_7, ia_8, za_8, ia_9, za_9, ia_10, za_10, ia_11, za_11, ia_12, za_12, ia_13, za_13, ia_14, za_14, ia_15, za_15, ib_0, ib_1, zb_1, ic_0, ic_1, ic_2, ic_3, zc_1, zc_2, zc_3, id_0, id_1, id_2, id_3, zd_1, zd_2, zd_3, L_0, L_1, L_2, L_3, L_4, L_5, L_6, L_7, L_8, L_9, L_10, L_11, L_12, L_13, L_14, L_15, L_16, L_17, L_18, L_19, L_20, L_24, L_27, L_30, L_31, L_32, L_35, L_36, L_40, L_41, L_43, L_44, L_45, L_46, L_47, L_48, L_50, L_54, L_57, L_58, L_59, L_60, L_61, L_62, L_63, L_91, L_93, L_96, L_97, L_98, L_99, L_100, L_103, L_122, L_145, L_150, L_200, L_255, L_600, L_999, L_1000, L_2000, L_9999, L_10000, L_32767, L_12345, oI_s, oI_n, L_mn, if_true, if_false, ite_true, ite_false, Bool.false_eq_true, Nat.reduceEqDiff, Nat.reduceLeDiff, Nat.reduceLT, Nat.reduceAdd, Nat.reduceSub, Nat.reduceMul, Nat.le_refl, Nat.lt_irrefl, Nat.not_lt_zero]
      refine ⟨fun z => absurd z (by omega), fun _ => ⟨by omega, ih _ (hu.put rfl) (fun p hp2 => ?_)⟩⟩
      rw [rd_e, if_pos rfl]
      split
      · rfl
      · exact hp p (by omega)
  apply eX12_worstAt
  unfold vX12_worstAt_0
  exact loop0 0 (by omega) w (fr.refl _ _) (fun p hp => absurd hp (Nat.not_lt_zero _))
