/-! which dusks fit a wedding -/
def fbN (T : Tb) (v : Nat) : Nat → Nat
  | 0 => 0
  | e + 1 => if fit T v e = true then fbN T v e ||| 2 ^ e else fbN T v e
theorem fbN_lt {T : Tb} {v : Nat} : ∀ n, n ≤ 61 → fbN T v n < 2 ^ 61 := by
  intro n
  induction n with
  | zero => intro _; simp [fbN]
  | succ n ih =>
    intro hn
    unfold fbN
    split
    · exact bi_lt (ih (by omega)) (by omega)
    · exact ih (by omega)
theorem fbN_t {T : Tb} {v e : Nat} : ∀ n, (fbN T v n).testBit e = (decide (e < n) && fit T v e) := by
  intro n
  induction n with
  | zero => simp [fbN]
  | succ n ih =>
    unfold fbN
    split
    · rename_i h
      rw [Nat.testBit_or, ih, Nat.testBit_two_pow]
      by_cases q : n = e
      · subst q; simp [h]
      · have : decide (e < n + 1) = decide (e < n) := by simp; omega
        simp [q, this]
    · rename_i h
      rw [ih]
      by_cases q : e = n
      · subst q; simp [h]
      · have : decide (e < n + 1) = decide (e < n) := by simp; omega
        rw [this]
theorem fbN_by {T : Tb} {v : Nat} : ∀ n, T 5 (3 * v + 2) < n → fbN T v n = fbN T v (T 5 (3 * v + 2) + 1) := by
  intro n hn
  apply Nat.eq_of_testBit_eq
  intro e
  rw [fbN_t, fbN_t]
  by_cases q : e ≤ T 5 (3 * v + 2)
  · have h1 : decide (e < n) = true := by simp; omega
    have h2 : decide (e < T 5 (3 * v + 2) + 1) = true := by simp; omega
    rw [h1, h2]
  · have : fit T v e = false := by simp [fit]; intro h; omega
    rw [this, Bool.and_false, Bool.and_false]
theorem KE.wants {o l n : Nat} {T : Tb} {β C : Nat → Nat} {w : q_Sm} (h : KE o l T β C n w) {v : Nat} (hv : v < T 7 3) : w.1 (o + 12) v = nI (T 5 (3 * v)) ∧ w.1 (o + 13) v = nI (T 5 (3 * v + 1)) ∧ w.1 (o + 14) v = nI (T 5 (3 * v + 2)) := by
  obtain ⟨h1, h2, h3⟩ := h.2.2.2.1.2.2.2.2.2.2.1
  exact ⟨h1 v hv, h2 v hv, h3 v hv⟩
theorem KE.nw {o l n : Nat} {T : Tb} {β C : Nat → Nat} {w : q_Sm} (h : KE o l T β C n w) : w.1 o 14 = nI (T 7 3) := h.2.2.2.1.1.2.2.2.1
theorem RE.nw {n : Nat} {T : Tb} {C : Nat → Nat} {w : q_Sm} (h : RE T C n w) : w.1 79 32 = nI (T 7 3) := h.2.1.1.2.2.2.1
theorem tb_w {T : Tb} (h : tb T) {v : Nat} (hv : v < T 7 3) : T 5 (3 * v) < 4 ∧ 1 ≤ T 5 (3 * v + 1) ∧ T 5 (3 * v + 1) ≤ 40 ∧ T 5 (3 * v + 2) ≤ 60 := h.2.2.2.2.2.2.1 v hv
theorem fit_iff {T : Tb} {v e : Nat} (h : e ≤ T 5 (3 * v + 2)) : fit T v e = true ↔ T 5 (3 * v + 1) ≤ m_light T e (T 5 (3 * v)) := by
  simp [fit, h]
theorem K_fittingDusks {d o l n v : Nat} {T : Tb} {β C : Nat → Nat} {w : q_Sm} {Q : Int64 → q_Sm → Prop} {X : s_Xo} (hE : KE o l T β C n w) (hv : v < T 7 3) (h : Q (lN (fbN T v 61)) w) : s_EvJ (d + 2) 0 mX2_fittingDusks w [.ref o, .int (nI v)] Q X := by
  have ht := hE.2.2.1
  have hnw := tb_nw ht
  have hoo := hE.1
  obtain ⟨w1, w2, w3⟩ := hE.wants hv
  obtain ⟨b1, b2, b3, b4⟩ := tb_w ht hv
  rw [fbN_by 61 (by omega)] at h
  have loop : ∀ e, e ≤ T 5 (3 * v + 2) + 1 → s_Ex (d + 2) 0 mX2_fittingDusks 5 [some (.ref o), some (.int (nI v)), some (.long (lN (fbN T v e))), none, some (.int (nI e))] [] w (s_J Q) X := by
    refine n_down ?_ ?_
    · apply xX2_fittingDusks_5
      unfold vX2_fittingDusks_5
      try simp (disch := omega) only [s_Ii, s_Jj, s_Vn, forall_eq, L_m1, nI_add, nI_clamp, nI_leI, nI_ltI, nI_eq, vp_nI, pk_mul, pk_sub, Nat.zero_add, Nat.add_zero, wr_2, Classical.not_not, true_and, and_true, ne_eq, false_implies, true_implies, implies_true, not_true_eq_false, not_false_eq_true, ia_0, ia_1, za_1, ia_2, za_2, ia_3, za_3, ia_4, za_4, ia_5, za_5, ia_6, za_6, ia_7, za_7, ia_8, za_8, ia_9, za_9, ia_10, za_10, ia_11, za_11, ia_12, za_12, ia_13, za_13, ia_14, za_14, ia_15, za_15, ib_0, ib_1, zb_1, ic_0, ic_1, ic_2, ic_3, zc_1, zc_2, zc_3, id_0, id_1, id_2, id_3, zd_1, zd_2, zd_3, L_0, L_1, L_2, L_3, L_4, L_5, L_6, L_7, L_8, L_9, L_10, L_11, L_12, L_13, L_14, L_15, L_16, L_17, L_18, L_19, L_20, L_24, L_27, L_30, L_31, L_32, L_35, L_36, L_40, L_41, L_43, L_44, L_45, L_46, L_47, L_48, L_50, L_54, L_57, L_58, L_59, L_60, L_61, L_62, L_63, L_91, L_93, L_96, L_97, L_98, L_99, L_100, L_103, L_122, L_145, L_150, L_200, L_255, L_600, L_999, L_1000, L_2000, L_9999, L_10000, L_32767, L_12345, oI_s, oI_n, L_mn, if_true, if_false, ite_true, ite_false, Bool.false_eq_true, Nat.reduceEqDiff, Nat.reduceLeDiff, Nat.reduceLT, Nat.reduceAdd, Nat.reduceSub, Nat.reduceMul, Nat.le_refl, Nat.lt_irrefl, Nat.not_lt_zero, w3]
      exact ⟨by omega, ⟨fun _ => h, fun z => absurd (by omega) z⟩⟩
    · intro e he ih
      have hl := m_light_le ht e b1
      have hlt := fbN_lt (T := T) (v := v) e (by omega)
      have hp : (2 : Nat) ^ e < 2 ^ 61 := Nat.pow_lt_pow_right (by omega) (by omega)
      have esh : (1 : Int64) <<< (Int32.toInt64 (nI e) &&& 63) = lN (2 ^ e) := by
        have := wb_shl 1 (k := e) (by omega)
        rw [Nat.one_mul] at this
        exact this
      unfold fbN at ih
      apply xX2_fittingDusks_5
      unfold vX2_fittingDusks_5
      rw [esh, wb_or (by omega) (by omega)]
      try simp (disch := omega) only [s_Ii, s_Jj, s_Vn, forall_eq, L_m1, nI_add, nI_clamp, nI_leI, nI_ltI, nI_eq, vp_nI, pk_mul, pk_sub, Nat.zero_add, Nat.add_zero, wr_2, Classical.not_not, true_and, and_true, ne_eq, false_implies, true_implies, implies_true, not_true_eq_false, not_false_eq_true, ia_0, ia_1, za_1, ia_2, za_2, ia_3, za_3, ia_4, za_4, ia_5, za_5, ia_6, za_6, ia_7, za_7, ia_8, za_8, ia_9, za_9, ia_10, za_10, ia_11, za_11, ia_12, za_12, ia_13, za_13, ia_14, za_14, ia_15, za_15, ib_0, ib_1, zb_1, ic_0, ic_1, ic_2, ic_3, zc_1, zc_2, zc_3, id_0, id_1, id_2, id_3, zd_1, zd_2, zd_3, L_0, L_1, L_2, L_3, L_4, L_5, L_6, L_7, L_8, L_9, L_10, L_11, L_12, L_13, L_14, L_15, L_16, L_17, L_18, L_19, L_20, L_24, L_27, L_30, L_31, L_32, L_35, L_36, L_40, L_41, L_43, L_44, L_45, L_46, L_47, L_48, L_50, L_54, L_57, L_58, L_59, L_60, L_61, L_62, L_63, L_91, L_93, L_96, L_97, L_98, L_99, L_100, L_103, L_122, L_145, L_150, L_200, L_255, L_600, L_999, L_1000, L_2000, L_9999, L_10000, L_32767, L_12345, oI_s, oI_n, L_mn, if_true, if_false, ite_true, ite_false, Bool.false_eq_true, Nat.reduceEqDiff, Nat.reduceLeDiff, Nat.reduceLT, Nat.reduceAdd, Nat.reduceSub, Nat.reduceMul, Nat.le_refl, Nat.lt_irrefl, Nat.not_lt_zero, w1, w2, w3]
      refine ⟨by omega, fun z => absurd z (by omega), fun _ => ⟨by omega, K_shine hE (by omega) b1 ?_⟩⟩
      try simp (disch := omega) only [s_Ii, s_Jj, s_Vn, forall_eq, L_m1, nI_add, nI_clamp, nI_leI, nI_ltI, nI_eq, vp_nI, pk_mul, pk_sub, Nat.zero_add, Nat.add_zero, wr_2, Classical.not_not, true_and, and_true, ne_eq, false_implies, true_implies, implies_true, not_true_eq_false, not_false_eq_true, ia_0, ia_1, za_1, ia_2, za_2, ia_3, za_3, ia_4, za_4, ia_5, za_5, ia_6, za_6, ia_7, za_7, ia_8, za_8, ia_9, za_9, ia_10, za_10, ia_11, za_11, ia_12, za_12, ia_13, za_13, ia_14, za_14, ia_15, za_15, ib_0, ib_1, zb_1, ic_0, ic_1, ic_2, ic_3, zc_1, zc_2, zc_3, id_0, id_1, id_2, id_3, zd_1, zd_2, zd_3, L_0, L_1, L_2, L_3, L_4, L_5, L_6, L_7, L_8, L_9, L_10, L_11, L_12, L_13, L_14, L_15, L_16, L_17, L_18, L_19, L_20, L_24, L_27, L_30, L_31, L_32, L_35, L_36, L_40, L_41, L_43, L_44, L_45, L_46, L_47, L_48, L_50, L_54, L_57, L_58, L_59, L_60, L_61, L_62, L_63, L_91, L_93, L_96, L_97, L_98, L_99, L_100, L_103, L_122, L_145, L_150, L_200, L_255, L_600, L_999, L_1000, L_2000, L_9999, L_10000, L_32767, L_12345, oI_s, oI_n, L_mn, if_true, if_false, ite_true, ite_false, Bool.false_eq_true, Nat.reduceEqDiff, Nat.reduceLeDiff, Nat.reduceLT, Nat.reduceAdd, Nat.reduceSub, Nat.reduceMul, Nat.le_refl, Nat.lt_irrefl, Nat.not_lt_zero, w2]
      refine ⟨by omega, fun z => ?_, fun z => ?_⟩
      · rw [if_neg (fun q => by have := (fit_iff (by omega)).mp q; omega)] at ih
        exact ih
      · rw [if_pos ((fit_iff (by omega)).mpr (by omega))] at ih
        exact ih
  apply eX2_fittingDusks
  unfold vX2_fittingDusks_0
  exact loop 0 (by omega)
theorem R_canWed {d n v e : Nat} {T : Tb} {C : Nat → Nat} {w : q_Sm} {Q : Int32 → q_Sm → Prop} {X : s_Xo} (hE : RE T C n w) (hv : v < T 7 3) (he : e ≤ 60) (h : Q (nI (if fit T v e = true then 1 else 0)) w) : s_EvI (d + 2) 0 mX12_canWed w [.ref 79, .int (nI v), .int (nI e)] Q X := by
  have ht := hE.1
  have hnw := tb_nw ht
  obtain ⟨b1, b2, b3, b4⟩ := tb_w ht hv
  have hl := m_light_le ht e b1
  have w1 : w.1 94 (3 * v) = nI (T 5 (3 * v)) := hE.2.1.2.2.2.2.2.2.1 _ (by omega)
  have w2 : w.1 94 (3 * v + 1) = nI (T 5 (3 * v + 1)) := hE.2.1.2.2.2.2.2.2.1 _ (by omega)
  have w3 : w.1 94 (3 * v + 2) = nI (T 5 (3 * v + 2)) := hE.2.1.2.2.2.2.2.2.1 _ (by omega)
  apply eX12_canWed
  unfold vX12_canWed_0
  try simp (disch := omega) only [s_Ii, s_Jj, s_Vn, forall_eq, L_m1, nI_add, nI_clamp, nI_leI, nI_ltI, nI_eq, vp_nI, pk_mul, pk_sub, Nat.zero_add, Nat.add_zero, wr_2, Classical.not_not, true_and, and_true, ne_eq, false_implies, true_implies, implies_true, not_true_eq_false, not_false_eq_true, ia_0, ia_1, za_1, ia_2, za_2, ia_3, za_3, ia_4, za_4, ia_5, za_5, ia_6, za_6, ia_7, za_7, ia_8, za_8, ia_9, za_9, ia_10, za_10, ia_11, za_11, ia_12, za_12, ia_13, za_13, ia_14, za_14, ia_15, za_15, ib_0, ib_1, zb_1, ic_0, ic_1, ic_2, ic_3, zc_1, zc_2, zc_3, id_0, id_1, id_2, id_3, zd_1, zd_2, zd_3, L_0, L_1, L_2, L_3, L_4, L_5, L_6, L_7, L_8, L_9, L_10, L_11, L_12, L_13, L_14, L_15, L_16, L_17, L_18, L_19, L_20, L_24, L_27, L_30, L_31, L_32, L_35, L_36, L_40, L_41, L_43, L_44, L_45, L_46, L_47, L_48, L_50, L_54, L_57, L_58, L_59, L_60, L_61, L_62, L_63, L_91, L_93, L_96, L_97, L_98, L_99, L_100, L_103, L_122, L_145, L_150, L_200, L_255, L_600, L_999, L_1000, L_2000, L_9999, L_10000, L_32767, L_12345, oI_s, oI_n, L_mn, if_true, if_false, ite_true, ite_false, Bool.false_eq_true, Nat.reduceEqDiff, Nat.reduceLeDiff, Nat.reduceLT, Nat.reduceAdd, Nat.reduceSub, Nat.reduceMul, Nat.le_refl, Nat.lt_irrefl, Nat.not_lt_zero, w1, w3]
  refine ⟨by omega, fun z => ?_, fun z => ⟨by omega, R_lightOf hE (by omega) b1 ?_⟩⟩
  · rw [if_neg (by simp [fit]; omega)] at h
    exact h
  · try simp (disch := omega) only [s_Ii, s_Jj, s_Vn, forall_eq, L_m1, nI_add, nI_clamp, nI_leI, nI_ltI, nI_eq, vp_nI, pk_mul, pk_sub, Nat.zero_add, Nat.add_zero, wr_2, Classical.not_not, true_and, and_true, ne_eq, false_implies, true_implies, implies_true, not_true_eq_false, not_false_eq_true, ia_0, ia_1, za_1, ia_2, za_2, ia_3, za_3, ia_4, za_4, ia_5, za_5, ia_6, za_6, ia_7, za_7, ia_8, za_8, ia_9, za_9, ia_10, za_10, ia_11, za_11, ia_12, za_12, ia_13, za_13, ia_14, za_14, ia_15, za_15, ib_0, ib_1, zb_1, ic_0, ic_1, ic_2, ic_3, zc_1, zc_2, zc_3, id_0, id_1, id_2, id_3, zd_1, zd_2, zd_3, L_0, L_1, L_2, L_3, L_4, L_5, L_6, L_7, L_8, L_9, L_10, L_11, L_12, L_13, L_14, L_15, L_16, L_17, L_18, L_19, L_20, L_24, L_27, L_30, L_31, L_32, L_35, L_36, L_40, L_41, L_43, L_44, L_45, L_46, L_47, L_48, L_50, L_54, L_57, L_58, L_59, L_60, L_61, L_62, L_63, L_91, L_93, L_96, L_97, L_98, L_99, L_100, L_103, L_122, L_145, L_150, L_200, L_255, L_600, L_999, L_1000, L_2000, L_9999, L_10000, L_32767, L_12345, oI_s, oI_n, L_mn, if_true, if_false, ite_true, ite_false, Bool.false_eq_true, Nat.reduceEqDiff, Nat.reduceLeDiff, Nat.reduceLT, Nat.reduceAdd, Nat.reduceSub, Nat.reduceMul, Nat.le_refl, Nat.lt_irrefl, Nat.not_lt_zero, w2]
    refine ⟨by omega, fun z2 => ?_, fun z2 => ?_⟩
    · rw [if_neg (fun q => by have := (fit_iff (by omega)).mp q; omega)] at h
      exact h
    · rw [if_pos ((fit_iff (by omega)).mpr (by omega))] at h
      exact h
theorem ag_choices (w : q_Sm) (hI : Inv w) (x1 : Int32) : ag_W Inv 998 1 er_N mX11_choices mX12_choices w [.int x1] := by
  obtain ⟨T, β, C, n, S, B, m, hC, hPst, hImg, hTp, hCnt⟩ := id hI
  have hE := hC.2.1
  have ht := hE.2.2.1
  have hRE := hC.2.2.1
  have hnc := tb_nc ht
  have hnd := tb_nd ht
  have hnw := tb_nw ht
  have hS := hC.2.2.2.1
  have hSr := hC.2.2.2.2.1
  have hok := hC.2.2.2.2.2.1
  have hβ := hE.ord
  rcases rngc x1 (T 7 3) (by omega) with ⟨j1, g1, rfl⟩ | e0
  rotate_left
  · have e0 : r_in x1 0 (nI (T 7 3) - 1) = 0 := e0
    refine agW_no hI "java/util/NoSuchElementException" (nI 1) 13 0 (by omega) (⟨rfl, rfl⟩) (fun Q X hX => ?_) (fun u hu Q X hQ => ?_)
    · apply eX11_choices
      unfold vX11_choices_0
      exact K_wed hE (fun _ => hX) (fun z => absurd (z.symm.trans e0) (by decide))
    · have hE1 : RE T C n (q_wI u 79 0 0) := (hRE.n1 hu).t
      have h79 : (q_wI u 79 0 0).1 79 0 = 0 := rd_s
      apply eX12_choices
      unfold vX12_choices_0
      rintro _ rfl
      refine R_wed0 (k := 1) hE1 (by omega) (by omega) e0 ?_
      first | exact ⟨fun _ => ⟨_, rfl, hQ⟩, fun z => absurd rfl z⟩ | exact ⟨fun z => absurd rfl z, fun _ => ⟨_, rfl, hQ⟩⟩
  have p0 : r_in (nI j1) 0 (nI (T 7 3) - 1) = 1 := r_inc g1 (by omega)
  refine agW_ok (nI (sm (fun e => if fit T j1 e = true then 1 else 0) 61)) hI (fun Q X hQ => ?_) (fun u hu Q X hQ => ?_)
  · apply eX11_choices
    unfold vX11_choices_0
    refine K_wed hE (fun z => absurd (z.symm.trans p0) (by decide)) (fun _ => ?_)
    have hlt := fbN_lt (T := T) (v := j1) 61 (by omega)
    refine ⟨ia_0 hE.1, K_fittingDusks hE g1 (K_bitsL (by omega) ?_)⟩
    have e1 : sm (fun e => if (fbN T j1 61).testBit e = true then 1 else 0) 64 = sm (fun e => if fit T j1 e = true then 1 else 0) 61 := by
      rw [sm_z (n := 61) 64 (by omega) (fun e h1 h2 => by rw [fbN_t]; have : decide (e < 61) = false := by simp; omega
                                                          rw [this]; rfl)]
      refine sm_c _ (fun e he => ?_)
      rw [fbN_t]
      have : decide (e < 61) = true := by simp; omega
      rw [this, Bool.true_and]
    rw [e1]
    exact ⟨_, rfl, hQ w (fr.refl _ _)⟩
  · have hCu := hC.sim hu
    have hE1 : RE T C n (q_wI u 79 0 0) := hCu.2.2.1.t
    have h79 : (q_wI u 79 0 0).1 79 0 = 0 := rd_s
    have hS1 : rR 104 S (q_wI u 79 0 0) := hCu.2.2.2.2.1.eq (fun j => rd_i (by omega))
    have hf1 : fr scr u (q_wI u 79 0 0) := scr_t
    apply eX12_choices
    unfold vX12_choices_0
    intro w1 hw1
    rw [← hw1] at hE1 h79 hS1 hf1
    refine R_wed1 hE1 h79 p0 ?_
    first | refine ⟨fun z => absurd z (by decide), fun _ => ?_⟩ | refine ⟨fun _ => ?_, fun z => absurd (show ¬ (1 : Int32) = 0 by decide) z⟩
    have loop : ∀ e, e ≤ 61 → s_Ex (998 + 1) 0 mX12_choices 20 [some (.ref 79), some (.int (nI j1)), some (.int (nI (sm (fun e => if fit T j1 e = true then 1 else 0) e))), some (.int (nI e))] [] w1 (s_I Q) X := by
      refine n_down ?_ ?_
      · apply xX12_choices_20
        unfold vX12_choices_20
        try simp (disch := omega) only [s_Ii, s_Jj, s_Vn, forall_eq, L_m1, nI_add, nI_clamp, nI_leI, nI_ltI, nI_eq, vp_nI, pk_mul, pk_sub, Nat.zero_add, Nat.add_zero, wr_2, Classical.not_not, true_and, and_true, ne_eq, false_implies, true_implies, implies_true, not_true_eq_false, not_false_eq_true, ia_0, ia_1, za_1, ia_2, za_2, ia_3, za_3, ia_4, za_4, ia_5, za_5, ia_6, za_6, ia_7, za_7, ia_8, za_8, ia_9, za_9, ia_10, za_10, ia_11, za_11, ia_12, za_12, ia_13, za_13, ia_14, za_14, ia_15, za_15, ib_0, ib_1, zb_1, ic_0, ic_1, ic_2, ic_3, zc_1, zc_2, zc_3, id_0, id_1, id_2, id_3, zd_1, zd_2, zd_3, L_0, L_1, L_2, L_3, L_4, L_5, L_6, L_7, L_8, L_9, L_10, L_11, L_12, L_13, L_14, L_15, L_16, L_17, L_18, L_19, L_20, L_24, L_27, L_30, L_31, L_32, L_35, L_36, L_40, L_41, L_43, L_44, L_45, L_46, L_47, L_48, L_50, L_54, L_57, L_58, L_59, L_60, L_61, L_62, L_63, L_91, L_93, L_96, L_97, L_98, L_99, L_100, L_103, L_122, L_145, L_150, L_200, L_255, L_600, L_999, L_1000, L_2000, L_9999, L_10000, L_32767, L_12345, oI_s, oI_n, L_mn, if_true, if_false, ite_true, ite_false, Bool.false_eq_true, Nat.reduceEqDiff, Nat.reduceLeDiff, Nat.reduceLT, Nat.reduceAdd, Nat.reduceSub, Nat.reduceMul, Nat.le_refl, Nat.lt_irrefl, Nat.not_lt_zero]
        exact hQ _ hf1 h79
      · intro e he ih
        have e1 : sm (fun e => if fit T j1 e = true then 1 else 0) (e + 1) = sm (fun e => if fit T j1 e = true then 1 else 0) e + (if fit T j1 e = true then 1 else 0) := rfl
        rw [e1] at ih
        apply xX12_choices_20
        unfold vX12_choices_20
        try simp (disch := omega) only [s_Ii, s_Jj, s_Vn, forall_eq, L_m1, nI_add, nI_clamp, nI_leI, nI_ltI, nI_eq, vp_nI, pk_mul, pk_sub, Nat.zero_add, Nat.add_zero, wr_2, Classical.not_not, true_and, and_true, ne_eq, false_implies, true_implies, implies_true, not_true_eq_false, not_false_eq_true, ia_0, ia_1, za_1, ia_2, za_2, ia_3, za_3, ia_4, za_4, ia_5, za_5, ia_6, za_6, ia_7, za_7, ia_8, za_8, ia_9, za_9, ia_10, za_10, ia_11, za_11, ia_12, za_12, ia_13, za_13, ia_14, za_14, ia_15, za_15, ib_0, ib_1, zb_1, ic_0, ic_1, ic_2, ic_3, zc_1, zc_2, zc_3, id_0, id_1, id_2, id_3, zd_1, zd_2, zd_3, L_0, L_1, L_2, L_3, L_4, L_5, L_6, L_7, L_8, L_9, L_10, L_11, L_12, L_13, L_14, L_15, L_16, L_17, L_18, L_19, L_20, L_24, L_27, L_30, L_31, L_32, L_35, L_36, L_40, L_41, L_43, L_44, L_45, L_46, L_47, L_48, L_50, L_54, L_57, L_58, L_59, L_60, L_61, L_62, L_63, L_91, L_93, L_96, L_97, L_98, L_99, L_100, L_103, L_122, L_145, L_150, L_200, L_255, L_600, L_999, L_1000, L_2000, L_9999, L_10000, L_32767, L_12345, oI_s, oI_n, L_mn, if_true, if_false, ite_true, ite_false, Bool.false_eq_true, Nat.reduceEqDiff, Nat.reduceLeDiff, Nat.reduceLT, Nat.reduceAdd, Nat.reduceSub, Nat.reduceMul, Nat.le_refl, Nat.lt_irrefl, Nat.not_lt_zero]
        refine ⟨fun z => absurd z (by omega), fun _ => R_canWed hE1 g1 (by omega) ?_⟩
        cases ef : fit T j1 e with
        | true =>
          rw [if_pos ef] at ih
          exact ⟨fun z => absurd (show nI 1 = nI 0 from z) (by decide), fun _ => ih⟩
        | false =>
          rw [if_neg (by rw [ef]; decide)] at ih
          exact ⟨fun _ => ih, fun z => absurd rfl z⟩
    exact loop 0 (by omega)
