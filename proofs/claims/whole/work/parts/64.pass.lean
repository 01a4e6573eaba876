/-! a dusk ends, on the reference's side; sums -/
theorem gw_c {T : Tb} {C : Nat → Nat} {n d p j e : Nat} {S S' : Nat → Nat} (h : S (10 + d) = S' (10 + d)) : gw T C n S d p j e = gw T C n S' d p j e := by
  unfold gw fa
  rw [h]
theorem up_up (S : Nat → Nat) (k a b : Nat) : up (up S k a) k b = up S k b := by
  funext j
  unfold up
  split <;> rfl
theorem gw_le {T : Tb} {C : Nat → Nat} {n d p j e : Nat} {S : Nat → Nat} : gw T C n S d p j e ≤ 99 := by
  unfold gw
  split
  · omega
  · exact gv_le _ _ _
theorem ow_0 {T : Tb} {C : Nat → Nat} {n d : Nat} {S : Nat → Nat} : ow T C n S d = 0 ↔ S d = 0 := by
  unfold ow
  refine ⟨fun h => by omega, fun h => ?_⟩
  rw [h]
  simp [gw]
theorem ow_le {T : Tb} {C : Nat → Nat} {n d : Nat} {S : Nat → Nat} : ow T C n S d ≤ 9999 := by
  unfold ow
  omega
theorem r_passes {d n : Nat} {T : Tb} {C : Nat → Nat} {S : Nat → Nat} {w : q_Sm} {Q : q_Sm → Prop} {X : s_Xo} (hE : RE T C n w) (hS : rR 105 S w) (hB : rb T S)
    (h : ∀ u, fr aS w u → rR 105 (psS T C n S) u → Q u) : s_EvV (d + 5) 0 mX12_passes w [.ref 79] Q X := by
  have hb := tb_nd hE.1
  have h62 := hB.2.2
  have h30 : ∀ u, fr aS w u → u.1 79 30 = nI (T 7 1) := fun u hu => (hu.2 _ _ rfl).trans hE.2.1.1.2.1
  have loop2 : ∀ k, k ≤ 4 → ∀ u, fr aS w u → rR 105 (ltS T (up (psI T C n S (T 7 1)) 62 (S 62 + 1)) (S 62 + 1) k) u → s_Ex (d + 5) 0 mX12_passes 116 [some (.ref 79), some (.int (nI k))] [] u (s_V Q) X := by
    refine n_down ?_ ?_
    · intro u hu hr
      apply xX12_passes_116
      unfold vX12_passes_116
      exact ⟨fun _ => ⟨rfl, h u hu hr⟩, fun z => absurd (show nI 4 ≤ nI 4 from nI_le (by omega) (by omega)) z⟩
    · intro k hk ih u hu hr
      have e62 := hr 62 (by omega)
      rw [ltS_o _ (by omega) (by omega), up_s] at e62
      apply xX12_passes_116
      unfold vX12_passes_116
      try simp (disch := omega) only [s_Ii, s_Jj, s_Vn, forall_eq, L_m1, nI_add, nI_clamp, nI_leI, nI_ltI, nI_eq, vp_nI, pk_mul, pk_sub, Nat.zero_add, Nat.add_zero, wr_2, Classical.not_not, true_and, and_true, ne_eq, false_implies, true_implies, implies_true, not_true_eq_false, not_false_eq_true, ia_0, ia_1, za_1, ia_2, za_2, ia_3, za_3, ia_4, za_4, ia_5, za_5, ia_6, za_6, ia_7, za_7, ia_8, za_8, ia_9, za_9, ia_10, za_10, ia_11, za_11, ia_12, za_12, ia_13, za_13, ia_14, za_14, ia_15, za_15, ib_0, ib_1, zb_1, ic_0, ic_1, ic_2, ic_3, zc_1, zc_2, zc_3, id_0, id_1, id_2, id_3, zd_1, zd_2, zd_3, L_0, L_1, L_2, L_3, L_4, L_5, L_6, L_7, L_8, L_9, L_10, L_11, L_12, L_13, L_14, L_15, L_16, L_17, L_18, L_19, L_20, L_24, L_27, L_30, L_31, L_32, L_35, L_36, L_40, L_41, L_43, L_44, L_45, L_46, L_47, L_48, L_50, L_54, L_57, L_58, L_59, L_60, L_61, L_62, L_63, L_91, L_93, L_96, L_97, L_98, L_99, L_100, L_103, L_122, L_145, L_150, L_200, L_255, L_600, L_999, L_1000, L_2000, L_9999, L_10000, L_32767, L_12345, e62]
      refine ⟨fun z => absurd z (by omega), fun _ => R_lightOf (hE.f hu aS_lo) (by omega) hk ?_⟩
      try simp (disch := omega) only [s_Ii, s_Jj, s_Vn, forall_eq, L_m1, nI_add, nI_clamp, nI_leI, nI_ltI, nI_eq, vp_nI, pk_mul, pk_sub, Nat.zero_add, Nat.add_zero, wr_2, Classical.not_not, true_and, and_true, ne_eq, false_implies, true_implies, implies_true, not_true_eq_false, not_false_eq_true, ia_0, ia_1, za_1, ia_2, za_2, ia_3, za_3, ia_4, za_4, ia_5, za_5, ia_6, za_6, ia_7, za_7, ia_8, za_8, ia_9, za_9, ia_10, za_10, ia_11, za_11, ia_12, za_12, ia_13, za_13, ia_14, za_14, ia_15, za_15, ib_0, ib_1, zb_1, ic_0, ic_1, ic_2, ic_3, zc_1, zc_2, zc_3, id_0, id_1, id_2, id_3, zd_1, zd_2, zd_3, L_0, L_1, L_2, L_3, L_4, L_5, L_6, L_7, L_8, L_9, L_10, L_11, L_12, L_13, L_14, L_15, L_16, L_17, L_18, L_19, L_20, L_24, L_27, L_30, L_31, L_32, L_35, L_36, L_40, L_41, L_43, L_44, L_45, L_46, L_47, L_48, L_50, L_54, L_57, L_58, L_59, L_60, L_61, L_62, L_63, L_91, L_93, L_96, L_97, L_98, L_99, L_100, L_103, L_122, L_145, L_150, L_200, L_255, L_600, L_999, L_1000, L_2000, L_9999, L_10000, L_32767, L_12345]
      exact ⟨by omega, ih _ (hu.put rfl) hr.put⟩
  have loop1 : ∀ i, i ≤ T 7 1 → ∀ u, fr aS w u → rR 105 (psI T C n S i) u → s_Ex (d + 5) 0 mX12_passes 2 [some (.ref 79), some (.int (nI i))] [] u (s_V Q) X := by
    refine n_down ?_ ?_
    · intro u hu hr
      have e62 := hr 62 (by omega)
      rw [psI_o _ (by omega) (by omega)] at e62
      apply xX12_passes_2
      unfold vX12_passes_2
      try simp (disch := omega) only [s_Ii, s_Jj, s_Vn, forall_eq, L_m1, nI_add, nI_clamp, nI_leI, nI_ltI, nI_eq, vp_nI, pk_mul, pk_sub, Nat.zero_add, Nat.add_zero, wr_2, Classical.not_not, true_and, and_true, ne_eq, false_implies, true_implies, implies_true, not_true_eq_false, not_false_eq_true, ia_0, ia_1, za_1, ia_2, za_2, ia_3, za_3, ia_4, za_4, ia_5, za_5, ia_6, za_6, ia_7, za_7, ia_8, za_8, ia_9, za_9, ia_10, za_10, ia_11, za_11, ia_12, za_12, ia_13, za_13, ia_14, za_14, ia_15, za_15, ib_0, ib_1, zb_1, ic_0, ic_1, ic_2, ic_3, zc_1, zc_2, zc_3, id_0, id_1, id_2, id_3, zd_1, zd_2, zd_3, L_0, L_1, L_2, L_3, L_4, L_5, L_6, L_7, L_8, L_9, L_10, L_11, L_12, L_13, L_14, L_15, L_16, L_17, L_18, L_19, L_20, L_24, L_27, L_30, L_31, L_32, L_35, L_36, L_40, L_41, L_43, L_44, L_45, L_46, L_47, L_48, L_50, L_54, L_57, L_58, L_59, L_60, L_61, L_62, L_63, L_91, L_93, L_96, L_97, L_98, L_99, L_100, L_103, L_122, L_145, L_150, L_200, L_255, L_600, L_999, L_1000, L_2000, L_9999, L_10000, L_32767, L_12345, h30 u hu, e62]
      refine ⟨fun _ => ?_, fun z => absurd (Nat.le_refl _) z⟩
      exact loop2 0 (by omega) _ (hu.put rfl) hr.put
    · intro i hi ih u hu hr
      have b1 := hB.1 i hi
      have ei : psI T C n S i i = S i := psI_o _ (by omega) (by omega)
      have e10 : psI T C n S i (10 + i) = S (10 + i) := psI_o _ (by omega) (by omega)
      have e40 : psI T C n S i (40 + i) = S (40 + i) := psI_o _ (by omega) (by omega)
      have e20 : psI T C n S i (20 + i) = S (20 + i) := psI_o _ (by omega) (by omega)
      have e62 : psI T C n S i 62 = S 62 := psI_o _ (by omega) (by omega)
      have f0 := hr i (by omega)
      rw [ei] at f0
      apply xX12_passes_2
      unfold vX12_passes_2
      try simp (disch := omega) only [s_Ii, s_Jj, s_Vn, forall_eq, L_m1, nI_add, nI_clamp, nI_leI, nI_ltI, nI_eq, vp_nI, pk_mul, pk_sub, Nat.zero_add, Nat.add_zero, wr_2, Classical.not_not, true_and, and_true, ne_eq, false_implies, true_implies, implies_true, not_true_eq_false, not_false_eq_true, ia_0, ia_1, za_1, ia_2, za_2, ia_3, za_3, ia_4, za_4, ia_5, za_5, ia_6, za_6, ia_7, za_7, ia_8, za_8, ia_9, za_9, ia_10, za_10, ia_11, za_11, ia_12, za_12, ia_13, za_13, ia_14, za_14, ia_15, za_15, ib_0, ib_1, zb_1, ic_0, ic_1, ic_2, ic_3, zc_1, zc_2, zc_3, id_0, id_1, id_2, id_3, zd_1, zd_2, zd_3, L_0, L_1, L_2, L_3, L_4, L_5, L_6, L_7, L_8, L_9, L_10, L_11, L_12, L_13, L_14, L_15, L_16, L_17, L_18, L_19, L_20, L_24, L_27, L_30, L_31, L_32, L_35, L_36, L_40, L_41, L_43, L_44, L_45, L_46, L_47, L_48, L_50, L_54, L_57, L_58, L_59, L_60, L_61, L_62, L_63, L_91, L_93, L_96, L_97, L_98, L_99, L_100, L_103, L_122, L_145, L_150, L_200, L_255, L_600, L_999, L_1000, L_2000, L_9999, L_10000, L_32767, L_12345, h30 u hu, f0]
      refine ⟨fun z => absurd z (by omega), fun _ => ⟨by omega, ?_⟩⟩
      refine r_growsOf (hE.f hu aS_lo) hr (by rw [ei, e10]; omega) (by omega) hi (fun u3 hu3 => ?_)
      rw [ei, e40, e62, gw_c e10]
      have gl : gw T C n S i (S i) (S (40 + i)) (S 62) ≤ 99 := gw_le
      have hu3' : fr aS w u3 := hu.trans (hu3.mono aG_aS)
      have hr3 : rR 105 (psI T C n S i) u3 := hr.eq (fun j => hu3.2 _ _ rfl)
      have step : ∀ u', fr aS w u' → rR 105 (up (psI T C n S i) i (ow T C n S i)) u' → s_Ex (d + 5) 0 mX12_passes 51 [some (.ref 79), some (.int (nI i))] [] u' (s_V Q) X := by
        intro u' hu' hr'
        have g0 := hr' i (by omega)
        rw [up_s] at g0
        have g62 := hr' 62 (by omega)
        rw [up_n (by omega), e62] at g62
        have ol : ow T C n S i ≤ 9999 := ow_le
        have step87 : ∀ u9, fr aS w u9 → rR 105 (up (up (psI T C n S i) i (ow T C n S i)) (20 + i) (lt1 T S i)) u9 → s_Ex (d + 5) 0 mX12_passes 87 [some (.ref 79), some (.int (nI i))] [] u9 (s_V Q) X := by
          intro u9 hu9 hr9
          apply xX12_passes_87
          unfold vX12_passes_87
          try simp (disch := omega) only [s_Ii, s_Jj, s_Vn, forall_eq, L_m1, nI_add, nI_clamp, nI_leI, nI_ltI, nI_eq, vp_nI, pk_mul, pk_sub, Nat.zero_add, Nat.add_zero, wr_2, Classical.not_not, true_and, and_true, ne_eq, false_implies, true_implies, implies_true, not_true_eq_false, not_false_eq_true, ia_0, ia_1, za_1, ia_2, za_2, ia_3, za_3, ia_4, za_4, ia_5, za_5, ia_6, za_6, ia_7, za_7, ia_8, za_8, ia_9, za_9, ia_10, za_10, ia_11, za_11, ia_12, za_12, ia_13, za_13, ia_14, za_14, ia_15, za_15, ib_0, ib_1, zb_1, ic_0, ic_1, ic_2, ic_3, zc_1, zc_2, zc_3, id_0, id_1, id_2, id_3, zd_1, zd_2, zd_3, L_0, L_1, L_2, L_3, L_4, L_5, L_6, L_7, L_8, L_9, L_10, L_11, L_12, L_13, L_14, L_15, L_16, L_17, L_18, L_19, L_20, L_24, L_27, L_30, L_31, L_32, L_35, L_36, L_40, L_41, L_43, L_44, L_45, L_46, L_47, L_48, L_50, L_54, L_57, L_58, L_59, L_60, L_61, L_62, L_63, L_91, L_93, L_96, L_97, L_98, L_99, L_100, L_103, L_122, L_145, L_150, L_200, L_255, L_600, L_999, L_1000, L_2000, L_9999, L_10000, L_32767, L_12345]
          exact ⟨by omega, ih _ (hu9.put rfl) hr9.put⟩
        have same : lt1 T S i = S (20 + i) → rR 105 (up (up (psI T C n S i) i (ow T C n S i)) (20 + i) (lt1 T S i)) u' := by
          intro q
          have e : up (psI T C n S i) i (ow T C n S i) (20 + i) = lt1 T S i := by rw [up_n (by omega), e20, q]
          rw [← e, up_id]
          exact hr'
        have ht := tb_tm hE.1 hi
        apply xX12_passes_51
        unfold vX12_passes_51
        try simp (disch := omega) only [s_Ii, s_Jj, s_Vn, forall_eq, L_m1, nI_add, nI_clamp, nI_leI, nI_ltI, nI_eq, vp_nI, pk_mul, pk_sub, Nat.zero_add, Nat.add_zero, wr_2, Classical.not_not, true_and, and_true, ne_eq, false_implies, true_implies, implies_true, not_true_eq_false, not_false_eq_true, ia_0, ia_1, za_1, ia_2, za_2, ia_3, za_3, ia_4, za_4, ia_5, za_5, ia_6, za_6, ia_7, za_7, ia_8, za_8, ia_9, za_9, ia_10, za_10, ia_11, za_11, ia_12, za_12, ia_13, za_13, ia_14, za_14, ia_15, za_15, ib_0, ib_1, zb_1, ic_0, ic_1, ic_2, ic_3, zc_1, zc_2, zc_3, id_0, id_1, id_2, id_3, zd_1, zd_2, zd_3, L_0, L_1, L_2, L_3, L_4, L_5, L_6, L_7, L_8, L_9, L_10, L_11, L_12, L_13, L_14, L_15, L_16, L_17, L_18, L_19, L_20, L_24, L_27, L_30, L_31, L_32, L_35, L_36, L_40, L_41, L_43, L_44, L_45, L_46, L_47, L_48, L_50, L_54, L_57, L_58, L_59, L_60, L_61, L_62, L_63, L_91, L_93, L_96, L_97, L_98, L_99, L_100, L_103, L_122, L_145, L_150, L_200, L_255, L_600, L_999, L_1000, L_2000, L_9999, L_10000, L_32767, L_12345, g0]
        refine ⟨by omega, fun z => step87 u' hu' (same ?_), fun z => ?_⟩
        · have : S i = 0 := (ow_0 (T := T) (C := C) (n := n)).mp (by omega)
          simp [lt1, this]
        · refine R_lastOf (hE.f hu' aS_lo) hi ?_
          have hne : S i ≠ 0 := fun q => z (by rw [ow_0.mpr q]; omega)
          try simp (disch := omega) only [s_Ii, s_Jj, s_Vn, forall_eq, L_m1, nI_add, nI_clamp, nI_leI, nI_ltI, nI_eq, vp_nI, pk_mul, pk_sub, Nat.zero_add, Nat.add_zero, wr_2, Classical.not_not, true_and, and_true, ne_eq, false_implies, true_implies, implies_true, not_true_eq_false, not_false_eq_true, ia_0, ia_1, za_1, ia_2, za_2, ia_3, za_3, ia_4, za_4, ia_5, za_5, ia_6, za_6, ia_7, za_7, ia_8, za_8, ia_9, za_9, ia_10, za_10, ia_11, za_11, ia_12, za_12, ia_13, za_13, ia_14, za_14, ia_15, za_15, ib_0, ib_1, zb_1, ic_0, ic_1, ic_2, ic_3, zc_1, zc_2, zc_3, id_0, id_1, id_2, id_3, zd_1, zd_2, zd_3, L_0, L_1, L_2, L_3, L_4, L_5, L_6, L_7, L_8, L_9, L_10, L_11, L_12, L_13, L_14, L_15, L_16, L_17, L_18, L_19, L_20, L_24, L_27, L_30, L_31, L_32, L_35, L_36, L_40, L_41, L_43, L_44, L_45, L_46, L_47, L_48, L_50, L_54, L_57, L_58, L_59, L_60, L_61, L_62, L_63, L_91, L_93, L_96, L_97, L_98, L_99, L_100, L_103, L_122, L_145, L_150, L_200, L_255, L_600, L_999, L_1000, L_2000, L_9999, L_10000, L_32767, L_12345, g62]
          refine ⟨fun z2 => step87 u' hu' (same ?_), fun z2 => ⟨by omega, step87 _ (hu'.put rfl) ?_⟩⟩
          · simp [lt1, z2]
          · have : lt1 T S i = 1 := by simp [lt1, hne, z2]
            rw [this]
            exact hr'.put
      try simp (disch := omega) only [s_Ii, s_Jj, s_Vn, forall_eq, L_m1, nI_add, nI_clamp, nI_leI, nI_ltI, nI_eq, vp_nI, pk_mul, pk_sub, Nat.zero_add, Nat.add_zero, wr_2, Classical.not_not, true_and, and_true, ne_eq, false_implies, true_implies, implies_true, not_true_eq_false, not_false_eq_true, ia_0, ia_1, za_1, ia_2, za_2, ia_3, za_3, ia_4, za_4, ia_5, za_5, ia_6, za_6, ia_7, za_7, ia_8, za_8, ia_9, za_9, ia_10, za_10, ia_11, za_11, ia_12, za_12, ia_13, za_13, ia_14, za_14, ia_15, za_15, ib_0, ib_1, zb_1, ic_0, ic_1, ic_2, ic_3, zc_1, zc_2, zc_3, id_0, id_1, id_2, id_3, zd_1, zd_2, zd_3, L_0, L_1, L_2, L_3, L_4, L_5, L_6, L_7, L_8, L_9, L_10, L_11, L_12, L_13, L_14, L_15, L_16, L_17, L_18, L_19, L_20, L_24, L_27, L_30, L_31, L_32, L_35, L_36, L_40, L_41, L_43, L_44, L_45, L_46, L_47, L_48, L_50, L_54, L_57, L_58, L_59, L_60, L_61, L_62, L_63, L_91, L_93, L_96, L_97, L_98, L_99, L_100, L_103, L_122, L_145, L_150, L_200, L_255, L_600, L_999, L_1000, L_2000, L_9999, L_10000, L_32767, L_12345, rd_s]
      refine ⟨by omega, by omega, fun z => ?_, fun z => ⟨by omega, ?_⟩⟩
      · refine step _ (hu3'.put rfl) ?_
        have : ow T C n S i = S i + gw T C n S i (S i) (S (40 + i)) (S 62) := by unfold ow; omega
        rw [this]
        exact hr3.put
      · refine step _ ((hu3'.put rfl).put rfl) ?_
        have : ow T C n S i = 9999 := by unfold ow; omega
        rw [this, ← up_up _ i (S i + gw T C n S i (S i) (S (40 + i)) (S 62))]
        exact hr3.put.put
  apply eX12_passes
  unfold vX12_passes_0
  exact loop1 0 (Nat.zero_le _) w (fr.refl _ _) hS
theorem r_goesNext {d n : Nat} {T : Tb} {C : Nat → Nat} {S : Nat → Nat} {w : q_Sm} {Q : Int32 → q_Sm → Prop} {X : s_Xo} (hE : RE T C n w) (hS : rR 105 S w) (hB : rb T S)
    (h1 : S 62 ≠ 200 → ∀ u, fr aS w u → rR 105 (psS T C n S) u → Q (nI 1) u) (h0 : S 62 = 200 → Q (nI 0) w) : s_EvI (d + 6) 0 mX12_goesNext w [.ref 79] Q X := by
  have h62 := hB.2.2
  apply eX12_goesNext
  unfold vX12_goesNext_0
  try simp (disch := omega) only [s_Ii, s_Jj, s_Vn, forall_eq, L_m1, nI_add, nI_clamp, nI_leI, nI_ltI, nI_eq, vp_nI, pk_mul, pk_sub, Nat.zero_add, Nat.add_zero, wr_2, Classical.not_not, true_and, and_true, ne_eq, false_implies, true_implies, implies_true, not_true_eq_false, not_false_eq_true, ia_0, ia_1, za_1, ia_2, za_2, ia_3, za_3, ia_4, za_4, ia_5, za_5, ia_6, za_6, ia_7, za_7, ia_8, za_8, ia_9, za_9, ia_10, za_10, ia_11, za_11, ia_12, za_12, ia_13, za_13, ia_14, za_14, ia_15, za_15, ib_0, ib_1, zb_1, ic_0, ic_1, ic_2, ic_3, zc_1, zc_2, zc_3, id_0, id_1, id_2, id_3, zd_1, zd_2, zd_3, L_0, L_1, L_2, L_3, L_4, L_5, L_6, L_7, L_8, L_9, L_10, L_11, L_12, L_13, L_14, L_15, L_16, L_17, L_18, L_19, L_20, L_24, L_27, L_30, L_31, L_32, L_35, L_36, L_40, L_41, L_43, L_44, L_45, L_46, L_47, L_48, L_50, L_54, L_57, L_58, L_59, L_60, L_61, L_62, L_63, L_91, L_93, L_96, L_97, L_98, L_99, L_100, L_103, L_122, L_145, L_150, L_200, L_255, L_600, L_999, L_1000, L_2000, L_9999, L_10000, L_32767, L_12345, hS _]
  exact ⟨fun z => r_passes hE hS hB (fun u hu hr => h1 z u hu hr), fun z => h0 z⟩
/-- sums -/
def sm (f : Nat → Nat) : Nat → Nat
  | 0 => 0
  | n + 1 => sm f n + f n
theorem sm_c {f g : Nat → Nat} : ∀ n, (∀ k, k < n → f k = g k) → sm f n = sm g n := by
  intro n
  induction n with
  | zero => intro _; rfl
  | succ n ih =>
    intro h
    unfold sm
    rw [ih (fun k hk => h k (by omega)), h n (by omega)]
theorem sm_le {f : Nat → Nat} {b : Nat} : ∀ n, (∀ k, k < n → f k ≤ b) → sm f n ≤ n * b := by
  intro n
  induction n with
  | zero => intro _; simp [sm]
  | succ n ih =>
    intro h
    have h1 := ih (fun k hk => h k (by omega))
    have h2 := h n (by omega)
    unfold sm
    rw [Nat.succ_mul]
    omega
theorem R_owedAll {d n : Nat} {T : Tb} {C : Nat → Nat} {S : Nat → Nat} {w : q_Sm} {Q : Int32 → q_Sm → Prop} {X : s_Xo} (hE : RE T C n w) (hS : rR 105 S w) (h : Q (nI (sm S (T 7 1))) w) : s_EvI (d + 1) 0 mX12_owedAll w [.ref 79] Q X := by
  have hb := tb_nd hE.1
  have h30 : w.1 79 30 = nI (T 7 1) := hE.2.1.1.2.1
  have loop : ∀ i, i ≤ T 7 1 → s_Ex (d + 1) 0 mX12_owedAll 4 [some (.ref 79), some (.int (nI (sm S i))), some (.int (nI i))] [] w (s_I Q) X := by
    refine n_down ?_ ?_
    · apply xX12_owedAll_4
      unfold vX12_owedAll_4
      try simp (disch := omega) only [s_Ii, s_Jj, s_Vn, forall_eq, L_m1, nI_add, nI_clamp, nI_leI, nI_ltI, nI_eq, vp_nI, pk_mul, pk_sub, Nat.zero_add, Nat.add_zero, wr_2, Classical.not_not, true_and, and_true, ne_eq, false_implies, true_implies, implies_true, not_true_eq_false, not_false_eq_true, ia_0, ia_1, za_1, ia_2, za_2, ia_3, za_3, ia_4, za_4, ia_5, za_5, ia_6, za_6, ia_7, za_7, ia_8, za_8, ia_9, za_9, ia_10, za_10, ia_11, za_11, ia_12, za_12, ia_13, za_13, ia_14, za_14, ia_15, za_15, ib_0, ib_1, zb_1, ic_0, ic_1, ic_2, ic_3, zc_1, zc_2, zc_3, id_0, id_1, id_2, id_3, zd_1, zd_2, zd_3, L_0, L_1, L_2, L_3, L_4, L_5, L_6, L_7, L_8, L_9, L_10, L_11, L_12, L_13, L_14, L_15, L_16, L_17, L_18, L_19, L_20, L_24, L_27, L_30, L_31, L_32, L_35, L_36, L_40, L_41, L_43, L_44, L_45, L_46, L_47, L_48, L_50, L_54, L_57, L_58, L_59, L_60, L_61, L_62, L_63, L_91, L_93, L_96, L_97, L_98, L_99, L_100, L_103, L_122, L_145, L_150, L_200, L_255, L_600, L_999, L_1000, L_2000, L_9999, L_10000, L_32767, L_12345, h30]
      exact ⟨fun _ => h, fun z => absurd (Nat.le_refl _) z⟩
    · intro i hi ih
      apply xX12_owedAll_4
      unfold vX12_owedAll_4
      try simp (disch := omega) only [s_Ii, s_Jj, s_Vn, forall_eq, L_m1, nI_add, nI_clamp, nI_leI, nI_ltI, nI_eq, vp_nI, pk_mul, pk_sub, Nat.zero_add, Nat.add_zero, wr_2, Classical.not_not, true_and, and_true, ne_eq, false_implies, true_implies, implies_true, not_true_eq_false, not_false_eq_true, ia_0, ia_1, za_1, ia_2, za_2, ia_3, za_3, ia_4, za_4, ia_5, za_5, ia_6, za_6, ia_7, za_7, ia_8, za_8, ia_9, za_9, ia_10, za_10, ia_11, za_11, ia_12, za_12, ia_13, za_13, ia_14, za_14, ia_15, za_15, ib_0, ib_1, zb_1, ic_0, ic_1, ic_2, ic_3, zc_1, zc_2, zc_3, id_0, id_1, id_2, id_3, zd_1, zd_2, zd_3, L_0, L_1, L_2, L_3, L_4, L_5, L_6, L_7, L_8, L_9, L_10, L_11, L_12, L_13, L_14, L_15, L_16, L_17, L_18, L_19, L_20, L_24, L_27, L_30, L_31, L_32, L_35, L_36, L_40, L_41, L_43, L_44, L_45, L_46, L_47, L_48, L_50, L_54, L_57, L_58, L_59, L_60, L_61, L_62, L_63, L_91, L_93, L_96, L_97, L_98, L_99, L_100, L_103, L_122, L_145, L_150, L_200, L_255, L_600, L_999, L_1000, L_2000, L_9999, L_10000, L_32767, L_12345, h30, hS _]
      exact ⟨fun z => absurd z (by omega), fun _ => ⟨by omega, ih⟩⟩
  apply eX12_owedAll
  unfold vX12_owedAll_0
  exact loop 0 (Nat.zero_le _)
theorem R_lateAll {d n : Nat} {T : Tb} {C : Nat → Nat} {S : Nat → Nat} {w : q_Sm} {Q : Int32 → q_Sm → Prop} {X : s_Xo} (hE : RE T C n w) (hS : rR 105 S w) (h : Q (nI (sm (fun d => S (20 + d)) (T 7 1))) w) : s_EvI (d + 1) 0 mX12_lateAll w [.ref 79] Q X := by
  have hb := tb_nd hE.1
  have h30 : w.1 79 30 = nI (T 7 1) := hE.2.1.1.2.1
  have loop : ∀ i, i ≤ T 7 1 → s_Ex (d + 1) 0 mX12_lateAll 4 [some (.ref 79), some (.int (nI (sm (fun d => S (20 + d)) i))), some (.int (nI i))] [] w (s_I Q) X := by
    refine n_down ?_ ?_
    · apply xX12_lateAll_4
      unfold vX12_lateAll_4
      try simp (disch := omega) only [s_Ii, s_Jj, s_Vn, forall_eq, L_m1, nI_add, nI_clamp, nI_leI, nI_ltI, nI_eq, vp_nI, pk_mul, pk_sub, Nat.zero_add, Nat.add_zero, wr_2, Classical.not_not, true_and, and_true, ne_eq, false_implies, true_implies, implies_true, not_true_eq_false, not_false_eq_true, ia_0, ia_1, za_1, ia_2, za_2, ia_3, za_3, ia_4, za_4, ia_5, za_5, ia_6, za_6, ia_7, za_7, ia_8, za_8, ia_9, za_9, ia_10, za_10, ia_11, za_11, ia_12, za_12, ia_13, za_13, ia_14, za_14, ia_15, za_15, ib_0, ib_1, zb_1, ic_0, ic_1, ic_2, ic_3, zc_1, zc_2, zc_3, id_0, id_1, id_2, id_3, zd_1, zd_2, zd_3, L_0, L_1, L_2, L_3, L_4, L_5, L_6, L_7, L_8, L_9, L_10, L_11, L_12, L_13, L_14, L_15, L_16, L_17, L_18, L_19, L_20, L_24, L_27, L_30, L_31, L_32, L_35, L_36, L_40, L_41, L_43, L_44, L_45, L_46, L_47, L_48, L_50, L_54, L_57, L_58, L_59, L_60, L_61, L_62, L_63, L_91, L_93, L_96, L_97, L_98, L_99, L_100, L_103, L_122, L_145, L_150, L_200, L_255, L_600, L_999, L_1000, L_2000, L_9999, L_10000, L_32767, L_12345, h30]
      exact ⟨fun _ => h, fun z => absurd (Nat.le_refl _) z⟩
    · intro i hi ih
      apply xX12_lateAll_4
      unfold vX12_lateAll_4
      try simp (disch := omega) only [s_Ii, s_Jj, s_Vn, forall_eq, L_m1, nI_add, nI_clamp, nI_leI, nI_ltI, nI_eq, vp_nI, pk_mul, pk_sub, Nat.zero_add, Nat.add_zero, wr_2, Classical.not_not, true_and, and_true, ne_eq, false_implies, true_implies, implies_true, not_true_eq_false, not_false_eq_true, ia_0, ia_1, za_1, ia_2, za_2, ia_3, za_3, ia_4, za_4, ia_5, za_5, ia_6, za_6, ia_7, za_7, ia_8, za_8, ia_9, za_9, ia_10, za_10, ia_11, za_11, ia_12, za_12, ia_13, za_13, ia_14, za_14, ia_15, za_15, ib_0, ib_1, zb_1, ic_0, ic_1, ic_2, ic_3, zc_1, zc_2, zc_3, id_0, id_1, id_2, id_3, zd_1, zd_2, zd_3, L_0, L_1, L_2, L_3, L_4, L_5, L_6, L_7, L_8, L_9, L_10, L_11, L_12, L_13, L_14, L_15, L_16, L_17, L_18, L_19, L_20, L_24, L_27, L_30, L_31, L_32, L_35, L_36, L_40, L_41, L_43, L_44, L_45, L_46, L_47, L_48, L_50, L_54, L_57, L_58, L_59, L_60, L_61, L_62, L_63, L_91, L_93, L_96, L_97, L_98, L_99, L_100, L_103, L_122, L_145, L_150, L_200, L_255, L_600, L_999, L_1000, L_2000, L_9999, L_10000, L_32767, L_12345, h30, hS _]
      exact ⟨fun z => absurd z (by omega), fun _ => ⟨by omega, ih⟩⟩
  apply eX12_lateAll
  unfold vX12_lateAll_0
  exact loop 0 (Nat.zero_le _)
theorem R_isAhead {d i j n : Nat} {T : Tb} {C : Nat → Nat} {w : q_Sm} {Q : Int32 → q_Sm → Prop} {X : s_Xo} (hE : RE T C n w) (hi : i < T 7 1) (hj : j < T 7 1) (h1 : ahead T i j → Q (nI 1) w) (h0 : ¬ ahead T i j → Q (nI 0) w) :
    s_EvI (d + 2) 0 mX12_isAhead w [.ref 79, .int (nI i), .int (nI j)] Q X := by
  have hb := tb_nd hE.1
  have t1 := tb_tm hE.1 hi
  have t2 := tb_tm hE.1 hj
  have a1 : ahead T i j ↔ tm T i < tm T j ∨ (tm T i = tm T j ∧ i < j) := Iff.rfl
  apply eX12_isAhead
  unfold vX12_isAhead_0
  refine R_lastOf hE hi (R_lastOf hE hj ?_)
  try simp (disch := omega) only [s_Ii, s_Jj, s_Vn, forall_eq, L_m1, nI_add, nI_clamp, nI_leI, nI_ltI, nI_eq, vp_nI, pk_mul, pk_sub, Nat.zero_add, Nat.add_zero, wr_2, Classical.not_not, true_and, and_true, ne_eq, false_implies, true_implies, implies_true, not_true_eq_false, not_false_eq_true, ia_0, ia_1, za_1, ia_2, za_2, ia_3, za_3, ia_4, za_4, ia_5, za_5, ia_6, za_6, ia_7, za_7, ia_8, za_8, ia_9, za_9, ia_10, za_10, ia_11, za_11, ia_12, za_12, ia_13, za_13, ia_14, za_14, ia_15, za_15, ib_0, ib_1, zb_1, ic_0, ic_1, ic_2, ic_3, zc_1, zc_2, zc_3, id_0, id_1, id_2, id_3, zd_1, zd_2, zd_3, L_0, L_1, L_2, L_3, L_4, L_5, L_6, L_7, L_8, L_9, L_10, L_11, L_12, L_13, L_14, L_15, L_16, L_17, L_18, L_19, L_20, L_24, L_27, L_30, L_31, L_32, L_35, L_36, L_40, L_41, L_43, L_44, L_45, L_46, L_47, L_48, L_50, L_54, L_57, L_58, L_59, L_60, L_61, L_62, L_63, L_91, L_93, L_96, L_97, L_98, L_99, L_100, L_103, L_122, L_145, L_150, L_200, L_255, L_600, L_999, L_1000, L_2000, L_9999, L_10000, L_32767, L_12345]
  refine ⟨fun z => h1 (a1.mpr (by omega)), fun z => R_lastOf hE hi (R_lastOf hE hj ?_)⟩
  try simp (disch := omega) only [s_Ii, s_Jj, s_Vn, forall_eq, L_m1, nI_add, nI_clamp, nI_leI, nI_ltI, nI_eq, vp_nI, pk_mul, pk_sub, Nat.zero_add, Nat.add_zero, wr_2, Classical.not_not, true_and, and_true, ne_eq, false_implies, true_implies, implies_true, not_true_eq_false, not_false_eq_true, ia_0, ia_1, za_1, ia_2, za_2, ia_3, za_3, ia_4, za_4, ia_5, za_5, ia_6, za_6, ia_7, za_7, ia_8, za_8, ia_9, za_9, ia_10, za_10, ia_11, za_11, ia_12, za_12, ia_13, za_13, ia_14, za_14, ia_15, za_15, ib_0, ib_1, zb_1, ic_0, ic_1, ic_2, ic_3, zc_1, zc_2, zc_3, id_0, id_1, id_2, id_3, zd_1, zd_2, zd_3, L_0, L_1, L_2, L_3, L_4, L_5, L_6, L_7, L_8, L_9, L_10, L_11, L_12, L_13, L_14, L_15, L_16, L_17, L_18, L_19, L_20, L_24, L_27, L_30, L_31, L_32, L_35, L_36, L_40, L_41, L_43, L_44, L_45, L_46, L_47, L_48, L_50, L_54, L_57, L_58, L_59, L_60, L_61, L_62, L_63, L_91, L_93, L_96, L_97, L_98, L_99, L_100, L_103, L_122, L_145, L_150, L_200, L_255, L_600, L_999, L_1000, L_2000, L_9999, L_10000, L_32767, L_12345]
  exact ⟨fun z2 => h0 (fun q => by have := a1.mp q; omega), fun z2 => ⟨fun z3 => h0 (fun q => by have := a1.mp q; omega), fun z3 => h1 (a1.mpr (by omega))⟩⟩
