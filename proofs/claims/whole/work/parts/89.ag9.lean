/-! agreement: best -/
def aE (i j : Nat) : Bool := i == 70 || i == 71 || i == 72 || aL i j
theorem aE_lo (i j : Nat) (h : i < 38 ∨ i = 40 ∨ i = 41) : aE i j = false := by
  unfold aE
  rw [aL_lo i j h]
  simp
  omega
theorem aL_aE (i j : Nat) (h : aL i j = true) : aE i j = true := by simp [aE, h]
theorem aB_aE (i j : Nat) (h : aB i j = true) : aE i j = true := by
  have : i = 70 ∨ i = 72 := by simpa [aB] using h
  rcases this with rfl | rfl <;> rfl
theorem K_choose {d o l n : Nat} {T : Tb} {β C S : Nat → Nat} {w : q_Sm} {Q : q_Sm → Prop} {X : s_Xo} (hE : KE o l T β C n w) (hS : cR 57 S w) (hB : rw2 T S)
    (h : ∀ u, fr aE w u → u.1 70 2 = nI (fo T C n S 0 (2147483647, 0) (2 ^ T 7 1)).1 → u.1 70 3 = nI (fo T C n S 0 (2147483647, 0) (2 ^ T 7 1)).2 → Q u) : s_EvV (d + 3 * T 7 1 + 6) 0 mX3_choose w [.ref 70, .ref 56, .ref o, .ref l] Q X := by
  have ht := hE.2.2.1
  have hnd := tb_nd ht
  have hoo := hE.1
  have l36 : ∀ k, k ≤ 4 → ∀ u, fr aE w u → (∀ e, e < T 7 1 → u.1 71 e = nI (bG T C n S e)) → (∀ j, j < k → u.1 72 j = nI (S (50 + j))) → s_Ex (d + 3 * T 7 1 + 6) 0 mX3_choose 36 [some (.ref 70), some (.ref 56), some (.ref o), none, some (.int (nI k))] [] u (s_V Q) X := by
    refine n_down ?_ ?_
    · intro u hu h71 h72
      have hEu := hE.f hu aE_lo
      have hSu : cR 57 S u := hS.eq (fun j => hu.2 _ _ rfl)
      apply xX3_choose_36
      unfold vX3_choose_36
      refine ⟨fun _ => ?_, fun z => absurd (show nI 4 ≤ nI 4 from nI_le (by omega) (by omega)) z⟩
      rintro _ rfl _ rfl
      have hid : (q_wI (q_wI u 70 2 2147483647) 70 3 0).1 o 3 = nI (T 7 1) := by rw [rd_i (by omega), rd_i (by omega)]; exact hEu.nd
      rw [hid]
      have eg : hiG T C n S 0 (T 7 1) = 0 := by unfold hiG; rw [Nat.sub_self]; rfl
      have ek : ∀ k, hiK T S 0 (T 7 1) k = 0 := fun k => by unfold hiK; rw [Nat.sub_self]; rfl
      have key := K_branch (o := o) (l := l) (n := n) (β := β) (C := C) (X := X) ht hB.1 (T 7 1) (Nat.le_refl _) (d + 2) 0 (2147483647, 0) (fun k => S (50 + k)) (q_wI (q_wI u 70 2 2147483647) 70 3 0) Q
      rw [eg, Nat.mul_zero, show d + 2 + 3 * T 7 1 + 3 = d + 3 * T 7 1 + 5 by omega] at key
      refine ⟨ia_0 hoo, cV (key (hEu.f ((fr.wr (A := aB) rfl).put rfl) aB_lo) (hSu.eq (fun j => by rw [rd_i (by omega), rd_i (by omega)])) (fun e he => by rw [rd_i (by omega), rd_i (by omega)]; exact h71 e he) (by rw [Nat.sub_self]; decide) (fun e he hb => by omega) (fun k hk => ⟨by rw [rd_i (by omega), rd_i (by omega)]; exact h72 k hk, by rw [ek]; rfl⟩) (by rw [rd_j (by omega), rd_s]; rfl) (by rw [rd_s]; rfl) (by decide) (fun u9 hu9 _ c2 c3 _ => h u9 (((hu.put rfl).put rfl).trans (hu9.mono aB_aE)) c2 c3)) (fun u2 h2 => ⟨rfl, h2⟩)⟩
    · intro k hk ih u hu h71 h72
      have hSu : cR 57 S u := hS.eq (fun j => hu.2 _ _ rfl)
      apply xX3_choose_36
      unfold vX3_choose_36
      rw [nI_1, nI_clamp (by omega)]
      refine ⟨fun z => absurd (show nI 4 ≤ nI k from z) (nI_ge hk (by omega)), fun _ => ⟨q_id_of rfl, K_unspent (Or.inl rfl) hSu hk ⟨(vp_nI (by omega)).mpr hk, ?_⟩⟩⟩
      rintro _ rfl
      refine ih _ (hu.put rfl) (fun e he => by rw [rd_i (by omega)]; exact h71 e he) (fun j hj => ?_)
      rw [rd_e, if_pos rfl]
      split
      · rename_i e; rw [e]
      · exact h72 j (by omega)
  have l3 : ∀ i, i ≤ T 7 1 → ∀ u, fr aE w u → (∀ e, e < i → u.1 71 e = nI (bG T C n S e)) → s_Ex (d + 3 * T 7 1 + 6) 0 mX3_choose 3 [some (.ref 70), some (.ref 56), some (.ref o), some (.ref l), some (.int (nI i))] [] u (s_V Q) X := by
    refine n_down ?_ ?_
    · intro u hu h71
      apply xX3_choose_3
      unfold vX3_choose_3
      rw [(hE.f hu aE_lo).nd]
      exact ⟨ia_0 hoo, fun _ => l36 0 (by omega) u hu h71 (fun j hj => absurd hj (Nat.not_lt_zero _)), fun z => absurd (nI_le (Nat.le_refl _) (by omega)) z⟩
    · intro i hi ih u hu h71
      have hEu := hE.f hu aE_lo
      have hSu : cR 57 S u := hS.eq (fun j => hu.2 _ _ rfl)
      have b1 := hB.1.1 i hi
      apply xX3_choose_3
      unfold vX3_choose_3
      rw [hEu.nd, nI_1, nI_clamp (by omega)]
      refine ⟨ia_0 hoo, fun z => absurd z (nI_ge hi (by omega)), fun _ => ⟨q_id_of rfl, ?_⟩⟩
      rw [show d + 3 * T 7 1 + 5 = (d + 3 * T 7 1 + 1) + 4 by omega]
      refine K_growth hEu (Or.inl rfl) hSu hi ⟨b1.1, b1.2.1⟩ hB.1.2.2 (fun u2 hu2 => ⟨(vp_nI (by omega)).mpr (by omega), ?_⟩)
      rintro _ rfl
      refine ih _ ((hu.trans (hu2.mono aL_aE)).put rfl) (fun e he => ?_)
      rw [rd_e, if_pos rfl]
      split
      · rename_i q; rw [q]; rfl
      · rw [hu2.2 _ _ rfl]; exact h71 e (by omega)
  apply eX3_choose
  unfold vX3_choose_0
  exact l3 0 (by omega) w (fr.refl _ _) (fun e he => absurd he (Nat.not_lt_zero _))
def aN (i _j : Nat) : Bool := i == 109 || i == 100 || i == 101
theorem aN_lo (i j : Nat) (h : i < 100) : aN i j = false := by simp [aN]; omega
theorem aG_aN (i j : Nat) (h : aG i j = true) : aN i j = true := by
  have : i = 100 ∨ i = 101 := by simpa [aG] using h
  rcases this with rfl | rfl <;> rfl
theorem R_canEnd {d n s : Nat} {T : Tb} {C S : Nat → Nat} {w : q_Sm} {Q : Int32 → q_Sm → Prop} {X : s_Xo} (hE : RE T C n w) (hS : rR 105 S w) (hB : rb T S) (hs : s < 2 ^ 10)
    (h1 : canE T S s → ∀ u, fr aN w u → Q (nI 1) u) (h0 : ¬ canE T S s → ∀ u, fr aN w u → Q (nI 0) u) : s_EvI (d + 2) 0 mX12_canEnd w [.ref 79, .int (nI s)] Q X := by
  have ht := hE.1
  have hnd := tb_nd ht
  have kb : ∀ k i, i ≤ T 7 1 → sm (sK T S s k) i ≤ 99990 := by
    intro k i hi
    have h1 := sm_le (f := sK T S s k) (b := 9999) i (fun d hd => by have := (hB.1 d (by omega)).1; unfold sK; split <;> omega)
    have : i * 9999 ≤ 10 * 9999 := Nat.mul_le_mul_right _ (by omega)
    omega
  have l83 : (∀ e, e < T 7 1 → s.testBit e = true → S e ≠ 0) → ∀ k, k ≤ 4 → ∀ u, fr aN w u → (∀ j, j < 4 → u.1 109 j = nI (sm (sK T S s j) (T 7 1))) → (∀ j, j < k → sm (sK T S s j) (T 7 1) ≤ S (50 + j)) → s_Ex (d + 2) 0 mX12_canEnd 83 [some (.ref 79), none, some (.int (nI k))] [] u (s_I Q) X := by
    intro hnz
    refine n_down ?_ ?_
    · intro u hu h9 hk
      apply xX12_canEnd_83
      unfold vX12_canEnd_83
      exact ⟨fun _ => ⟨_, rfl, h1 ⟨hnz, hk⟩ u hu⟩, fun z => absurd (show nI 4 ≤ nI 4 from nI_le (by omega) (by omega)) z⟩
    · intro k hk ih u hu h9 hj
      have b2 := rb_left ht hB hk
      have b3 := kb k (T 7 1) (Nat.le_refl _)
      have hr : u.1 105 (50 + k) = nI (S (50 + k)) := (hu.2 _ _ rfl).trans (hS _ (by omega))
      apply xX12_canEnd_83
      unfold vX12_canEnd_83
      try simp (disch := omega) only [s_Ii, s_Jj, s_Vn, forall_eq, L_m1, nI_add, nI_clamp, nI_leI, nI_ltI, nI_eq, vp_nI, pk_mul, pk_sub, Nat.zero_add, Nat.add_zero, wr_2, Classical.not_not, true_and, and_true, ne_eq, false_implies, true_implies, implies_true, not_true_eq_false, not_false_eq_true, ia_0, ia_1, za_1, ia_2, za_2, ia_3, za_3, ia_4, za_4, ia_5, za_5, ia_6, za_6, ia_7, za_7, ia_8, za_8, ia_9, za_9, ia_10, za_10, ia_11, za_11, ia_12, za_12, ia_13, za_13, ia_14, za_14, ia_15, za_15, ib_0, ib_1, zb_1, ic_0, ic_1, ic_2, ic_3, zc_1, zc_2, zc_3, id_0, id_1, id_2, id_3, zd_1, zd_2, zd_3, L_0, L_1, L_2, L_3, L_4, L_5, L_6, L_7, L_8, L_9, L_10, L_11, L_12, L_13, L_14, L_15, L_16, L_17, L_18, L_19, L_20, L_24, L_27, L_30, L_31, L_32, L_35, L_36, L_40, L_41, L_43, L_44, L_45, L_46, L_47, L_48, L_50, L_54, L_57, L_58, L_59, L_60, L_61, L_62, L_63, L_91, L_93, L_96, L_97, L_98, L_99, L_100, L_103, L_122, L_145, L_150, L_200, L_255, L_600, L_999, L_1000, L_2000, L_9999, L_10000, L_32767, L_12345, oI_s, oI_n, L_mn, if_true, if_false, ite_true, ite_false, Bool.false_eq_true, Nat.reduceEqDiff, Nat.reduceLeDiff, Nat.reduceLT, Nat.reduceAdd, Nat.reduceSub, Nat.reduceMul, Nat.le_refl, Nat.lt_irrefl, Nat.not_lt_zero, h9 k hk, hr]
      refine ⟨fun z => absurd z (by omega), fun _ => ⟨by omega, by omega, fun z => ih u hu h9 (fun j hj2 => ?_), fun z => h0 (fun q => z (q.2 k hk)) u hu⟩⟩
      rcases Nat.lt_or_ge j k with q | q
      · exact hj j q
      · rw [show j = k by omega]; exact z
  have l22 : ∀ i, i ≤ T 7 1 → ∀ u, fr aN w u → (∀ j, j < 4 → u.1 109 j = nI (sm (sK T S s j) i)) → (∀ e, e < i → s.testBit e = true → S e ≠ 0) → s_Ex (d + 2) 0 mX12_canEnd 22 [some (.ref 79), some (.int (nI s)), some (.int (nI i))] [] u (s_I Q) X := by
    refine n_down ?_ ?_
    · intro u hu h9 hz
      apply xX12_canEnd_22
      unfold vX12_canEnd_22
      rw [(hE.f hu aN_lo).nd]
      exact ⟨fun _ => l83 hz 0 (by omega) u hu h9 (fun j hj => absurd hj (Nat.not_lt_zero _)), fun z => absurd (nI_le (Nat.le_refl _) (by omega)) z⟩
    · intro i hi ih u hu h9 hz
      have hEu := hE.f hu aN_lo
      have b1 := hB.1 i hi
      have hcl := tb_cl ht hi
      have hr : u.1 105 i = nI (S i) := (hu.2 _ _ rfl).trans (hS _ (by omega))
      have b3 := kb (cl T i) i (by omega)
      apply xX12_canEnd_22
      unfold vX12_canEnd_22
      cases et : s.testBit i with
      | true =>
        try simp (disch := omega) only [s_Ii, s_Jj, s_Vn, forall_eq, L_m1, nI_add, nI_clamp, nI_leI, nI_ltI, nI_eq, vp_nI, pk_mul, pk_sub, Nat.zero_add, Nat.add_zero, wr_2, Classical.not_not, true_and, and_true, ne_eq, false_implies, true_implies, implies_true, not_true_eq_false, not_false_eq_true, ia_0, ia_1, za_1, ia_2, za_2, ia_3, za_3, ia_4, za_4, ia_5, za_5, ia_6, za_6, ia_7, za_7, ia_8, za_8, ia_9, za_9, ia_10, za_10, ia_11, za_11, ia_12, za_12, ia_13, za_13, ia_14, za_14, ia_15, za_15, ib_0, ib_1, zb_1, ic_0, ic_1, ic_2, ic_3, zc_1, zc_2, zc_3, id_0, id_1, id_2, id_3, zd_1, zd_2, zd_3, L_0, L_1, L_2, L_3, L_4, L_5, L_6, L_7, L_8, L_9, L_10, L_11, L_12, L_13, L_14, L_15, L_16, L_17, L_18, L_19, L_20, L_24, L_27, L_30, L_31, L_32, L_35, L_36, L_40, L_41, L_43, L_44, L_45, L_46, L_47, L_48, L_50, L_54, L_57, L_58, L_59, L_60, L_61, L_62, L_63, L_91, L_93, L_96, L_97, L_98, L_99, L_100, L_103, L_122, L_145, L_150, L_200, L_255, L_600, L_999, L_1000, L_2000, L_9999, L_10000, L_32767, L_12345, oI_s, oI_n, L_mn, if_true, if_false, ite_true, ite_false, Bool.false_eq_true, Nat.reduceEqDiff, Nat.reduceLeDiff, Nat.reduceLT, Nat.reduceAdd, Nat.reduceSub, Nat.reduceMul, Nat.le_refl, Nat.lt_irrefl, Nat.not_lt_zero, hEu.nd, bi_bit, et, hr]
        refine ⟨fun z => absurd z (by omega), fun _ => ⟨by omega, fun z => R_colourOf hEu hi ?_, fun z => h0 (fun q => q.1 i hi et z) u hu⟩⟩
        try simp (disch := omega) only [s_Ii, s_Jj, s_Vn, forall_eq, L_m1, nI_add, nI_clamp, nI_leI, nI_ltI, nI_eq, vp_nI, pk_mul, pk_sub, Nat.zero_add, Nat.add_zero, wr_2, Classical.not_not, true_and, and_true, ne_eq, false_implies, true_implies, implies_true, not_true_eq_false, not_false_eq_true, ia_0, ia_1, za_1, ia_2, za_2, ia_3, za_3, ia_4, za_4, ia_5, za_5, ia_6, za_6, ia_7, za_7, ia_8, za_8, ia_9, za_9, ia_10, za_10, ia_11, za_11, ia_12, za_12, ia_13, za_13, ia_14, za_14, ia_15, za_15, ib_0, ib_1, zb_1, ic_0, ic_1, ic_2, ic_3, zc_1, zc_2, zc_3, id_0, id_1, id_2, id_3, zd_1, zd_2, zd_3, L_0, L_1, L_2, L_3, L_4, L_5, L_6, L_7, L_8, L_9, L_10, L_11, L_12, L_13, L_14, L_15, L_16, L_17, L_18, L_19, L_20, L_24, L_27, L_30, L_31, L_32, L_35, L_36, L_40, L_41, L_43, L_44, L_45, L_46, L_47, L_48, L_50, L_54, L_57, L_58, L_59, L_60, L_61, L_62, L_63, L_91, L_93, L_96, L_97, L_98, L_99, L_100, L_103, L_122, L_145, L_150, L_200, L_255, L_600, L_999, L_1000, L_2000, L_9999, L_10000, L_32767, L_12345, oI_s, oI_n, L_mn, if_true, if_false, ite_true, ite_false, Bool.false_eq_true, Nat.reduceEqDiff, Nat.reduceLeDiff, Nat.reduceLT, Nat.reduceAdd, Nat.reduceSub, Nat.reduceMul, Nat.le_refl, Nat.lt_irrefl, Nat.not_lt_zero, h9, hr]
        refine ⟨by omega, by omega, by omega, ih _ (hu.put rfl) (fun j hj => ?_) (fun e he => ?_)⟩
        · have e1 : sm (sK T S s j) (i + 1) = sm (sK T S s j) i + sK T S s j i := rfl
          rw [e1]
          by_cases q : j = cl T i
          · subst q
            rw [rd_s, show sK T S s (cl T i) i = S i from if_pos ⟨et, rfl⟩]
          · rw [rd_j q, h9 j hj, show sK T S s j i = 0 from if_neg (fun z => q z.2.symm)]
            rfl
        · rcases Nat.lt_or_ge e i with q | q
          · exact hz e q
          · rw [show e = i by omega]; exact fun _ => z
      | false =>
        try simp (disch := omega) only [s_Ii, s_Jj, s_Vn, forall_eq, L_m1, nI_add, nI_clamp, nI_leI, nI_ltI, nI_eq, vp_nI, pk_mul, pk_sub, Nat.zero_add, Nat.add_zero, wr_2, Classical.not_not, true_and, and_true, ne_eq, false_implies, true_implies, implies_true, not_true_eq_false, not_false_eq_true, ia_0, ia_1, za_1, ia_2, za_2, ia_3, za_3, ia_4, za_4, ia_5, za_5, ia_6, za_6, ia_7, za_7, ia_8, za_8, ia_9, za_9, ia_10, za_10, ia_11, za_11, ia_12, za_12, ia_13, za_13, ia_14, za_14, ia_15, za_15, ib_0, ib_1, zb_1, ic_0, ic_1, ic_2, ic_3, zc_1, zc_2, zc_3, id_0, id_1, id_2, id_3, zd_1, zd_2, zd_3, L_0, L_1, L_2, L_3, L_4, L_5, L_6, L_7, L_8, L_9, L_10, L_11, L_12, L_13, L_14, L_15, L_16, L_17, L_18, L_19, L_20, L_24, L_27, L_30, L_31, L_32, L_35, L_36, L_40, L_41, L_43, L_44, L_45, L_46, L_47, L_48, L_50, L_54, L_57, L_58, L_59, L_60, L_61, L_62, L_63, L_91, L_93, L_96, L_97, L_98, L_99, L_100, L_103, L_122, L_145, L_150, L_200, L_255, L_600, L_999, L_1000, L_2000, L_9999, L_10000, L_32767, L_12345, oI_s, oI_n, L_mn, if_true, if_false, ite_true, ite_false, Bool.false_eq_true, Nat.reduceEqDiff, Nat.reduceLeDiff, Nat.reduceLT, Nat.reduceAdd, Nat.reduceSub, Nat.reduceMul, Nat.le_refl, Nat.lt_irrefl, Nat.not_lt_zero, hEu.nd, bi_bit, et]
        refine ⟨fun z => absurd z (by omega), fun _ => ih u hu (fun j hj => ?_) (fun e he => ?_)⟩
        · rw [h9 j hj]
          show _ = nI (sm (sK T S s j) i + sK T S s j i)
          rw [show sK T S s j i = 0 from if_neg (fun z => by rw [et] at z; cases z.1)]
          rfl
        · rcases Nat.lt_or_ge e i with q | q
          · exact hz e q
          · rw [show e = i by omega, et]; intro q2; cases q2
  have l2 : ∀ k, k ≤ 4 → ∀ u, fr aN w u → (∀ j, j < k → u.1 109 j = nI 0) → s_Ex (d + 2) 0 mX12_canEnd 2 [some (.ref 79), some (.int (nI s)), some (.int (nI k))] [] u (s_I Q) X := by
    refine n_down ?_ ?_
    · intro u hu h9
      apply xX12_canEnd_2
      unfold vX12_canEnd_2
      exact ⟨fun _ => l22 0 (by omega) u hu h9 (fun e he => absurd he (Nat.not_lt_zero _)), fun z => absurd (show nI 4 ≤ nI 4 from nI_le (by omega) (by omega)) z⟩
    · intro k hk ih u hu h9
      apply xX12_canEnd_2
      unfold vX12_canEnd_2
      try simp (disch := omega) only [s_Ii, s_Jj, s_Vn, forall_eq, L_m1, nI_add, nI_clamp, nI_leI, nI_ltI, nI_eq, vp_nI, pk_mul, pk_sub, Nat.zero_add, Nat.add_zero, wr_2, Classical.not_not, true_and, and_true, ne_eq, false_implies, true_implies, implies_true, not_true_eq_false, not_false_eq_true, ia_0, ia_1, za_1, ia_2, za_2, ia_3, za_3, ia_4, za_4, ia_5, za_5, ia_6, za_6, ia_7, za_7, ia_8, za_8, ia_9, za_9, ia_10, za_10, ia_11, za_11, ia_12, za_12, ia_13, za_13, ia_14, za_14, ia_15, za_15, ib_0, ib_1, zb_1, ic_0, ic_1, ic_2, ic_3, zc_1, zc_2, zc_3, id_0, id_1, id_2, id_3, zd_1, zd_2, zd_3, L_0, L_1, L_2, L_3, L_4, L_5, L_6, L_7, L_8, L_9, L_10, L_11, L_12, L_13, L_14, L_15, L_16, L_17, L_18, L_19, L_20, L_24, L_27, L_30, L_31, L_32, L_35, L_36, L_40, L_41, L_43, L_44, L_45, L_46, L_47, L_48, L_50, L_54, L_57, L_58, L_59, L_60, L_61, L_62, L_63, L_91, L_93, L_96, L_97, L_98, L_99, L_100, L_103, L_122, L_145, L_150, L_200, L_255, L_600, L_999, L_1000, L_2000, L_9999, L_10000, L_32767, L_12345, oI_s, oI_n, L_mn, if_true, if_false, ite_true, ite_false, Bool.false_eq_true, Nat.reduceEqDiff, Nat.reduceLeDiff, Nat.reduceLT, Nat.reduceAdd, Nat.reduceSub, Nat.reduceMul, Nat.le_refl, Nat.lt_irrefl, Nat.not_lt_zero]
      refine ⟨fun z => absurd z (by omega), fun _ => ⟨by omega, ih _ (hu.put rfl) (fun j hj => ?_)⟩⟩
      rw [rd_e, if_pos rfl]
      split
      · rfl
      · exact h9 j (by omega)
  apply eX12_canEnd
  unfold vX12_canEnd_0
  exact l2 0 (by omega) w (fr.refl _ _) (fun j hj => absurd hj (Nat.not_lt_zero _))
def bp (p : Nat × Nat) (m : Nat) : Prop := (m = 0 ∧ p = (2147483647, 0)) ∨ (0 < m ∧ p.1 ≤ 990 ∧ p.2 < m)
theorem canE_0 {T : Tb} {S : Nat → Nat} : canE T S 0 := by
  refine ⟨fun d _ h => by simp at h, fun k _ => ?_⟩
  have := sm_z (f := sK T S 0 k) (n := 0) (T 7 1) (by omega) (fun d _ _ => by simp [sK])
  rw [this]
  exact Nat.zero_le _
theorem fo_b {T : Tb} {C : Nat → Nat} {n : Nat} {S : Nat → Nat} (ht : tb T) : ∀ m, bp (fo T C n S 0 (2147483647, 0) m) m := by
  intro m
  induction m with
  | zero => exact Or.inl ⟨rfl, rfl⟩
  | succ m ih =>
    right
    have hc := cost_le (C := C) (n := n) (S := S) ht m
    show 0 < m + 1 ∧ (foU T C n S (0 + m) (fo T C n S 0 (2147483647, 0) m)).1 ≤ 990 ∧ (foU T C n S (0 + m) (fo T C n S 0 (2147483647, 0) m)).2 < m + 1
    rw [Nat.zero_add]
    by_cases q : canE T S m ∧ cost T C n S m < (fo T C n S 0 (2147483647, 0) m).1
    · rw [foU_y q.1 q.2]
      exact ⟨by omega, hc, by show m < m + 1; omega⟩
    · rw [foU_n q]
      rcases ih with ⟨h1, h2⟩ | ⟨h1, h2, h3⟩
      · exfalso
        subst h1
        apply q
        rw [h2]
        exact ⟨canE_0, by show _ < 2147483647; omega⟩
      · exact ⟨by omega, h2, by omega⟩
theorem r_bestL {d n x : Nat} {T : Tb} {C S : Nat → Nat} {w : q_Sm} {Q : Int32 → q_Sm → Prop} {X : s_Xo} (hE : RE T C n w) (hS : rR 105 S w) (hB : rw2 T S) (hx : x < 2)
    (h : ∀ u, fr aN w u → Q (if x = 0 then nI (fo T C n S 0 (2147483647, 0) (2 ^ T 7 1)).1 else nI (fo T C n S 0 (2147483647, 0) (2 ^ T 7 1)).2) u) :
    s_Ex (d + 5) 0 mX12_best 33 [some (.ref 79), some (.int (nI x)), some (.int (-1)), some (.int (nI 0)), some (.int (nI 0)), none, none] [] w (s_I Q) X := by
  have ht := hE.1
  have hnd := tb_nd ht
  have h10 : (2 : Nat) ^ T 7 1 ≤ 2 ^ 10 := Nat.pow_le_pow_right (by omega) hnd
  have hpos : 0 < (2 : Nat) ^ T 7 1 := Nat.pos_of_ne_zero (by simp)
  have l33 : ∀ s, s ≤ 2 ^ T 7 1 → ∀ u y z, fr aN w u → (s = 0 → y = oI none) → (0 < s → y = nI (fo T C n S 0 (2147483647, 0) s).2 ∧ z = nI (fo T C n S 0 (2147483647, 0) s).1) → s_Ex (d + 5) 0 mX12_best 33 [some (.ref 79), some (.int (nI x)), some (.int y), some (.int z), some (.int (nI s)), none, none] [] u (s_I Q) X := by
    refine n_down ?_ ?_
    · intro u y z hu h1 h2
      obtain ⟨rfl, rfl⟩ := h2 hpos
      have fin := h u hu
      have hEu := hE.f hu aN_lo
      apply xX12_best_33
      unfold vX12_best_33
      rw [hEu.nd]
      have e1 : (1 : Int32) <<< (nI (T 7 1) &&& 31) = nI (2 ^ T 7 1) := bi_1 (by omega)
      rw [e1]
      refine ⟨fun _ => ⟨fun q => ?_, fun q => ?_⟩, fun q => absurd (nI_le (Nat.le_refl _) (by omega)) q⟩
      · rw [if_neg (fun q2 => q (by rw [q2]; rfl))] at fin
        exact ⟨_, rfl, fin⟩
      · have q2 : nI x = nI 0 := Decidable.not_not.mp q
        rw [nI_eq (by omega) (by omega)] at q2
        rw [if_pos q2] at fin
        exact ⟨_, rfl, fin⟩
    · intro s hs ih u y z hu h1 h2
      have hEu := hE.f hu aN_lo
      have hSu : rR 105 S u := hS.eq (fun j => hu.2 _ _ rfl)
      have e1 : (1 : Int32) <<< (nI (T 7 1) &&& 31) = nI (2 ^ T 7 1) := bi_1 (by omega)
      have hcs := cost_le (C := C) (n := n) (S := S) ht s
      have hbp := fo_b (T := T) (C := C) (n := n) (S := S) ht s
      have efo : fo T C n S 0 (2147483647, 0) (s + 1) = foU T C n S s (fo T C n S 0 (2147483647, 0) s) := by
        show foU T C n S (0 + s) _ = _
        rw [Nat.zero_add]
      apply xX12_best_33
      unfold vX12_best_33
      rw [hEu.nd, e1, nI_1]
      refine ⟨fun q => absurd q (nI_ge hs (by omega)), fun _ => R_canEnd hEu hSu hB.1 (by omega) (fun hce u2 hu2 => ?_) (fun hce u2 hu2 => ?_)⟩
      · refine ⟨fun _ => ?_, fun q => absurd (show ¬ nI 1 = nI 0 by decide) q⟩
        have l62 : ∀ i, i ≤ T 7 1 → ∀ u3, fr aN w u3 → s_Ex (d + 5) 0 mX12_best 62 [some (.ref 79), some (.int (nI x)), some (.int y), some (.int z), some (.int (nI s)), some (.int (nI (sm (sC T C n S s) i))), some (.int (nI i))] [] u3 (s_I Q) X := by
          refine n_down ?_ ?_
          · intro u3 hu3
            have ec : sm (sC T C n S s) (T 7 1) = cost T C n S s := rfl
            apply xX12_best_62
            unfold vX12_best_62
            rw [(hE.f hu3 aN_lo).nd, ec, nI_1]
            refine ⟨fun _ => ⟨fun q => ?_, fun q => ?_⟩, fun q => absurd (nI_le (Nat.le_refl _) (by omega)) q⟩
            · have hs0 : s = 0 := by
                rcases Nat.eq_zero_or_pos s with z9 | z9
                · exact z9
                · exfalso
                  have hlt := (hbp.resolve_left (fun q9 => by omega)).2.2
                  rw [(h2 z9).1] at q
                  exact (oI_n (by omega)).mp q
              refine ih u3 _ _ hu3 (fun q9 => by omega) (fun _ => ?_)
              rw [efo]
              have : fo T C n S 0 (2147483647, 0) s = (2147483647, 0) := by subst hs0; rfl
              rw [this, foU_y hce (by show _ < 2147483647; omega)]
              exact ⟨rfl, rfl⟩
            · have hs0 : 0 < s := by
                rcases Nat.eq_zero_or_pos s with z9 | z9
                · exact absurd (h1 z9) q
                · exact z9
              have hb2 := (hbp.resolve_left (fun q9 => by omega))
              obtain ⟨h3, h4⟩ := h2 hs0
              rw [h3, h4, nI_ltI (by omega) (by omega)]
              refine ⟨fun q9 => ih u3 _ _ hu3 (fun q9 => by omega) (fun _ => ?_), fun q9 => ih u3 _ _ hu3 (fun q9 => by omega) (fun _ => ?_)⟩
              · rw [efo, foU_y hce q9]; exact ⟨rfl, rfl⟩
              · rw [efo, foU_n (fun q8 => q9 q8.2)]; exact ⟨rfl, rfl⟩
          · intro i hi ih2 u3 hu3
            have hE3 := hE.f hu3 aN_lo
            have hS3 : rR 105 S u3 := hS.eq (fun j => hu3.2 _ _ rfl)
            have b1 := hB.1.1 i hi
            have e2 : sm (sC T C n S s) (i + 1) = sm (sC T C n S s) i + sC T C n S s i := rfl
            rw [e2] at ih2
            apply xX12_best_62
            unfold vX12_best_62
            cases et : s.testBit i with
            | true =>
              rw [show sC T C n S s i = 0 from if_pos et] at ih2
              try simp (disch := omega) only [s_Ii, s_Jj, s_Vn, forall_eq, L_m1, nI_add, nI_clamp, nI_leI, nI_ltI, nI_eq, vp_nI, pk_mul, pk_sub, Nat.zero_add, Nat.add_zero, wr_2, Classical.not_not, true_and, and_true, ne_eq, false_implies, true_implies, implies_true, not_true_eq_false, not_false_eq_true, ia_0, ia_1, za_1, ia_2, za_2, ia_3, za_3, ia_4, za_4, ia_5, za_5, ia_6, za_6, ia_7, za_7, ia_8, za_8, ia_9, za_9, ia_10, za_10, ia_11, za_11, ia_12, za_12, ia_13, za_13, ia_14, za_14, ia_15, za_15, ib_0, ib_1, zb_1, ic_0, ic_1, ic_2, ic_3, zc_1, zc_2, zc_3, id_0, id_1, id_2, id_3, zd_1, zd_2, zd_3, L_0, L_1, L_2, L_3, L_4, L_5, L_6, L_7, L_8, L_9, L_10, L_11, L_12, L_13, L_14, L_15, L_16, L_17, L_18, L_19, L_20, L_24, L_27, L_30, L_31, L_32, L_35, L_36, L_40, L_41, L_43, L_44, L_45, L_46, L_47, L_48, L_50, L_54, L_57, L_58, L_59, L_60, L_61, L_62, L_63, L_91, L_93, L_96, L_97, L_98, L_99, L_100, L_103, L_122, L_145, L_150, L_200, L_255, L_600, L_999, L_1000, L_2000, L_9999, L_10000, L_32767, L_12345, oI_s, oI_n, L_mn, if_true, if_false, ite_true, ite_false, Bool.false_eq_true, Nat.reduceEqDiff, Nat.reduceLeDiff, Nat.reduceLT, Nat.reduceAdd, Nat.reduceSub, Nat.reduceMul, Nat.le_refl, Nat.lt_irrefl, Nat.not_lt_zero, hE3.nd, bi_bit, et]
              exact ⟨fun z => absurd z (by omega), fun _ => ih2 u3 hu3⟩
            | false =>
              rw [show sC T C n S s i = bG T C n S i from if_neg (by rw [et]; decide)] at ih2
              try simp (disch := omega) only [s_Ii, s_Jj, s_Vn, forall_eq, L_m1, nI_add, nI_clamp, nI_leI, nI_ltI, nI_eq, vp_nI, pk_mul, pk_sub, Nat.zero_add, Nat.add_zero, wr_2, Classical.not_not, true_and, and_true, ne_eq, false_implies, true_implies, implies_true, not_true_eq_false, not_false_eq_true, ia_0, ia_1, za_1, ia_2, za_2, ia_3, za_3, ia_4, za_4, ia_5, za_5, ia_6, za_6, ia_7, za_7, ia_8, za_8, ia_9, za_9, ia_10, za_10, ia_11, za_11, ia_12, za_12, ia_13, za_13, ia_14, za_14, ia_15, za_15, ib_0, ib_1, zb_1, ic_0, ic_1, ic_2, ic_3, zc_1, zc_2, zc_3, id_0, id_1, id_2, id_3, zd_1, zd_2, zd_3, L_0, L_1, L_2, L_3, L_4, L_5, L_6, L_7, L_8, L_9, L_10, L_11, L_12, L_13, L_14, L_15, L_16, L_17, L_18, L_19, L_20, L_24, L_27, L_30, L_31, L_32, L_35, L_36, L_40, L_41, L_43, L_44, L_45, L_46, L_47, L_48, L_50, L_54, L_57, L_58, L_59, L_60, L_61, L_62, L_63, L_91, L_93, L_96, L_97, L_98, L_99, L_100, L_103, L_122, L_145, L_150, L_200, L_255, L_600, L_999, L_1000, L_2000, L_9999, L_10000, L_32767, L_12345, oI_s, oI_n, L_mn, if_true, if_false, ite_true, ite_false, Bool.false_eq_true, Nat.reduceEqDiff, Nat.reduceLeDiff, Nat.reduceLT, Nat.reduceAdd, Nat.reduceSub, Nat.reduceMul, Nat.le_refl, Nat.lt_irrefl, Nat.not_lt_zero, hE3.nd, bi_bit, et]
              refine ⟨fun z => absurd z (by omega), fun _ => r_growsOf hE3 hS3 ⟨b1.1, b1.2.1⟩ hB.1.2.2 hi (fun u4 hu4 => ?_)⟩
              rw [nI_add]
              exact ih2 u4 (hu3.trans (hu4.mono aG_aN))
        exact l62 0 (by omega) u2 (hu.trans hu2)
      · refine ⟨fun q => absurd rfl q, fun _ => ?_⟩
        have hs0 : 0 < s := by
          rcases Nat.eq_zero_or_pos s with z9 | z9
          · subst z9; exact absurd canE_0 hce
          · exact z9
        refine ih u2 _ _ (hu.trans hu2) (fun q9 => by omega) (fun _ => ?_)
        rw [efo, foU_n (fun q8 => hce q8.1)]
        exact h2 hs0
  exact l33 0 (by omega) w _ _ (fr.refl _ _) (fun _ => rfl) (fun q => by omega)
theorem sc_E (i j : Nat) (h : aE i j = true) : scr i j = true := by
  have : i = 70 ∨ i = 71 ∨ i = 72 ∨ aL i j = true := by simpa [aE, or_assoc] using h
  rcases this with rfl | rfl | rfl | h
  · rfl
  · rfl
  · rfl
  · exact sc_L i j h
theorem sc_N (i j : Nat) (h : aN i j = true) : scr i j = true := by
  have : i = 109 ∨ i = 100 ∨ i = 101 := by simpa [aN, or_assoc] using h
  rcases this with rfl | rfl | rfl <;> rfl
theorem ag_best (w : q_Sm) (hI : Inv w) (x1 : Int32) : ag_W Inv 998 1 er_I mX11_best mX12_best w [.int x1] := by
  obtain ⟨T, β, C, n, S, B, m, hC, hPst, hImg, hTp, hCnt⟩ := id hI
  have hE := hC.2.1
  have ht := hE.2.2.1
  have hRE := hC.2.2.1
  have hnc := tb_nc ht
  have hnd := tb_nd ht
  have hnw := tb_nw ht
  have hS := hC.2.2.2.1
  have hSr := hC.2.2.2.2.1
  have hok := hC.2.2.2.2.2.1
  have hβ := hE.ord
  rcases rng x1 1 (by omega) with ⟨j1, g1, rfl⟩ | e0
  rotate_left
  · have e0 : r_in x1 0 1 = 0 := e0
    refine agW_no hI "java/lang/IllegalArgumentException" (nI 1) 14 1 (by omega) (⟨rfl, rfl⟩) (fun Q X hX => ?_) (fun u hu Q X hQ => ?_)
    · apply eX11_best
      unfold vX11_best_0
      refine K_isIn ?_
      rw [e0]
      exact K_req0 hX
    · have hE1 : RE T C n (q_wI u 79 0 0) := (hRE.n1 hu).t
      have h79 : (q_wI u 79 0 0).1 79 0 = 0 := rd_s
      apply eX12_best
      unfold vX12_best_0
      rintro _ rfl
      refine R_within ?_
      rw [e0]
      refine R_no (k := 1) (t := 1) (by omega) (by omega) (by omega) ?_
      first | exact ⟨fun _ => ⟨_, rfl, hQ⟩, fun z => absurd rfl z⟩ | exact ⟨fun z => absurd rfl z, fun _ => ⟨_, rfl, hQ⟩⟩
  have p0 : r_in (nI j1) 0 1 = 1 := r_in1 (a := 0) (b := 1) (by omega) (by omega) (by omega)
  refine agW_ok (if j1 = 0 then nI (fo T C n S 0 (2147483647, 0) (2 ^ T 7 1)).1 else nI (fo T C n S 0 (2147483647, 0) (2 ^ T 7 1)).2) hI (fun Q X hQ => ?_) (fun u hu Q X hQ => ?_)
  · apply eX11_best
    unfold vX11_best_0
    refine K_isIn ?_
    rw [p0]
    refine K_req1 ?_
    have key := fun Q => K_choose (d := 991 - 3 * T 7 1) (Q := Q) (X := X) hE hS hok.1
    rw [show 991 - 3 * T 7 1 + 3 * T 7 1 + 6 = 997 by omega] at key
    refine key _ (fun u hu h2 h3 => ?_)
    have fin := hQ u (hu.mono sc_E)
    rw [h2, h3]
    refine ⟨fun q => ?_, fun q => ?_⟩
    · rw [if_neg (fun q2 => q (by rw [q2]; rfl))] at fin
      exact ⟨_, rfl, fin⟩
    · have q2 : nI j1 = nI 0 := Decidable.not_not.mp q
      rw [nI_eq (by omega) (by omega)] at q2
      rw [if_pos q2] at fin
      exact ⟨_, rfl, fin⟩
  · have hCu := hC.sim hu
    have hE1 : RE T C n (q_wI u 79 0 0) := hCu.2.2.1.t
    have h79 : (q_wI u 79 0 0).1 79 0 = 0 := rd_s
    have hS1 : rR 104 S (q_wI u 79 0 0) := hCu.2.2.2.2.1.eq (fun j => rd_i (by omega))
    have hf1 : fr scr u (q_wI u 79 0 0) := scr_t
    apply eX12_best
    unfold vX12_best_0
    intro w1 hw1
    rw [← hw1] at hE1 h79 hS1 hf1
    refine R_within ?_
    rw [p0]
    refine R_may1 h79 ?_
    first | refine ⟨fun z => absurd z (by decide), fun _ => ?_⟩ | refine ⟨fun _ => ?_, fun z => absurd (show ¬ (1 : Int32) = 0 by decide) z⟩
    refine r_take hS1 (fun u2 hu2 hr2 => ?_)
    refine r_bestL (hE1.f hu2 aS_lo) hr2 hok.1 (by omega) (fun u3 hu3 => ?_)
    exact hQ u3 ((hf1.trans (hu2.mono sc_S)).trans (hu3.mono sc_N)) ((hu3.2 _ _ rfl).trans ((hu2.2 _ _ rfl).trans h79))
