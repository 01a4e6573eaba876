/-! rows on the class side -/
theorem K_owed {d i ro : Nat} {S : Nat → Nat} {w : q_Sm} {Q : Int32 → q_Sm → Prop} {X : s_Xo} (ho : ro = 56 ∨ ro = 68) (hS : cR (ro + 1) S w) (hi : i < 10) (h : Q (nI (S i)) w) : s_EvI (d + 1) 0 mX6_owed w [.ref ro, .int (nI i)] Q X := by
  have e := hS (i) (by omega)
  rw [pm_0 (by omega)] at e
  apply eX6_owed
  unfold vX6_owed_0
  try simp (disch := omega) only [s_Ii, s_Jj, s_Vn, forall_eq, L_m1, nI_add, nI_clamp, nI_leI, nI_ltI, nI_eq, vp_nI, pk_mul, pk_sub, Nat.zero_add, Nat.add_zero, wr_2, Classical.not_not, true_and, and_true, ne_eq, false_implies, true_implies, implies_true, not_true_eq_false, not_false_eq_true, ia_0, ia_1, za_1, ia_2, za_2, ia_3, za_3, ia_4, za_4, ia_5, za_5, ia_6, za_6, ia_7, za_7, ia_8, za_8, ia_9, za_9, ia_10, za_10, ia_11, za_11, ia_12, za_12, ia_13, za_13, ia_14, za_14, ia_15, za_15, ib_0, ib_1, zb_1, ic_0, ic_1, ic_2, ic_3, zc_1, zc_2, zc_3, id_0, id_1, id_2, id_3, zd_1, zd_2, zd_3, L_0, L_1, L_2, L_3, L_4, L_5, L_6, L_7, L_8, L_9, L_10, L_11, L_12, L_13, L_14, L_15, L_16, L_17, L_18, L_19, L_20, L_24, L_27, L_30, L_31, L_32, L_35, L_36, L_40, L_41, L_43, L_44, L_45, L_46, L_47, L_48, L_50, L_54, L_57, L_58, L_59, L_60, L_61, L_62, L_63, L_91, L_93, L_96, L_97, L_98, L_99, L_100, L_103, L_122, L_145, L_150, L_200, L_255, L_600, L_999, L_1000, L_2000, L_9999, L_10000, L_32767, L_12345, e]
  exact ⟨by omega, h⟩
theorem K_holder {d i ro : Nat} {S : Nat → Nat} {w : q_Sm} {Q : Int32 → q_Sm → Prop} {X : s_Xo} (ho : ro = 56 ∨ ro = 68) (hS : cR (ro + 1) S w) (hi : i < 10) (h : Q (nI (S (10 + i))) w) : s_EvI (d + 1) 0 mX6_holder w [.ref ro, .int (nI i)] Q X := by
  have e := hS (10 + i) (by omega)
  rw [pm_0 (by omega)] at e
  apply eX6_holder
  unfold vX6_holder_0
  try simp (disch := omega) only [s_Ii, s_Jj, s_Vn, forall_eq, L_m1, nI_add, nI_clamp, nI_leI, nI_ltI, nI_eq, vp_nI, pk_mul, pk_sub, Nat.zero_add, Nat.add_zero, wr_2, Classical.not_not, true_and, and_true, ne_eq, false_implies, true_implies, implies_true, not_true_eq_false, not_false_eq_true, ia_0, ia_1, za_1, ia_2, za_2, ia_3, za_3, ia_4, za_4, ia_5, za_5, ia_6, za_6, ia_7, za_7, ia_8, za_8, ia_9, za_9, ia_10, za_10, ia_11, za_11, ia_12, za_12, ia_13, za_13, ia_14, za_14, ia_15, za_15, ib_0, ib_1, zb_1, ic_0, ic_1, ic_2, ic_3, zc_1, zc_2, zc_3, id_0, id_1, id_2, id_3, zd_1, zd_2, zd_3, L_0, L_1, L_2, L_3, L_4, L_5, L_6, L_7, L_8, L_9, L_10, L_11, L_12, L_13, L_14, L_15, L_16, L_17, L_18, L_19, L_20, L_24, L_27, L_30, L_31, L_32, L_35, L_36, L_40, L_41, L_43, L_44, L_45, L_46, L_47, L_48, L_50, L_54, L_57, L_58, L_59, L_60, L_61, L_62, L_63, L_91, L_93, L_96, L_97, L_98, L_99, L_100, L_103, L_122, L_145, L_150, L_200, L_255, L_600, L_999, L_1000, L_2000, L_9999, L_10000, L_32767, L_12345, e]
  exact ⟨by omega, h⟩
theorem K_paid {d i ro : Nat} {S : Nat → Nat} {w : q_Sm} {Q : Int32 → q_Sm → Prop} {X : s_Xo} (ho : ro = 56 ∨ ro = 68) (hS : cR (ro + 1) S w) (hi : i < 10) (h : Q (nI (S (30 + i))) w) : s_EvI (d + 1) 0 mX6_paid w [.ref ro, .int (nI i)] Q X := by
  have e := hS (20 + i) (by omega)
  rw [pm_20 (by omega)] at e
  apply eX6_paid
  unfold vX6_paid_0
  try simp (disch := omega) only [s_Ii, s_Jj, s_Vn, forall_eq, L_m1, nI_add, nI_clamp, nI_leI, nI_ltI, nI_eq, vp_nI, pk_mul, pk_sub, Nat.zero_add, Nat.add_zero, wr_2, Classical.not_not, true_and, and_true, ne_eq, false_implies, true_implies, implies_true, not_true_eq_false, not_false_eq_true, ia_0, ia_1, za_1, ia_2, za_2, ia_3, za_3, ia_4, za_4, ia_5, za_5, ia_6, za_6, ia_7, za_7, ia_8, za_8, ia_9, za_9, ia_10, za_10, ia_11, za_11, ia_12, za_12, ia_13, za_13, ia_14, za_14, ia_15, za_15, ib_0, ib_1, zb_1, ic_0, ic_1, ic_2, ic_3, zc_1, zc_2, zc_3, id_0, id_1, id_2, id_3, zd_1, zd_2, zd_3, L_0, L_1, L_2, L_3, L_4, L_5, L_6, L_7, L_8, L_9, L_10, L_11, L_12, L_13, L_14, L_15, L_16, L_17, L_18, L_19, L_20, L_24, L_27, L_30, L_31, L_32, L_35, L_36, L_40, L_41, L_43, L_44, L_45, L_46, L_47, L_48, L_50, L_54, L_57, L_58, L_59, L_60, L_61, L_62, L_63, L_91, L_93, L_96, L_97, L_98, L_99, L_100, L_103, L_122, L_145, L_150, L_200, L_255, L_600, L_999, L_1000, L_2000, L_9999, L_10000, L_32767, L_12345, e]
  exact ⟨by omega, h⟩
theorem K_paidToday {d i ro : Nat} {S : Nat → Nat} {w : q_Sm} {Q : Int32 → q_Sm → Prop} {X : s_Xo} (ho : ro = 56 ∨ ro = 68) (hS : cR (ro + 1) S w) (hi : i < 10) (h : Q (nI (S (40 + i))) w) : s_EvI (d + 1) 0 mX6_paidToday w [.ref ro, .int (nI i)] Q X := by
  have e := hS (30 + i) (by omega)
  rw [pm_30 (by omega)] at e
  apply eX6_paidToday
  unfold vX6_paidToday_0
  try simp (disch := omega) only [s_Ii, s_Jj, s_Vn, forall_eq, L_m1, nI_add, nI_clamp, nI_leI, nI_ltI, nI_eq, vp_nI, pk_mul, pk_sub, Nat.zero_add, Nat.add_zero, wr_2, Classical.not_not, true_and, and_true, ne_eq, false_implies, true_implies, implies_true, not_true_eq_false, not_false_eq_true, ia_0, ia_1, za_1, ia_2, za_2, ia_3, za_3, ia_4, za_4, ia_5, za_5, ia_6, za_6, ia_7, za_7, ia_8, za_8, ia_9, za_9, ia_10, za_10, ia_11, za_11, ia_12, za_12, ia_13, za_13, ia_14, za_14, ia_15, za_15, ib_0, ib_1, zb_1, ic_0, ic_1, ic_2, ic_3, zc_1, zc_2, zc_3, id_0, id_1, id_2, id_3, zd_1, zd_2, zd_3, L_0, L_1, L_2, L_3, L_4, L_5, L_6, L_7, L_8, L_9, L_10, L_11, L_12, L_13, L_14, L_15, L_16, L_17, L_18, L_19, L_20, L_24, L_27, L_30, L_31, L_32, L_35, L_36, L_40, L_41, L_43, L_44, L_45, L_46, L_47, L_48, L_50, L_54, L_57, L_58, L_59, L_60, L_61, L_62, L_63, L_91, L_93, L_96, L_97, L_98, L_99, L_100, L_103, L_122, L_145, L_150, L_200, L_255, L_600, L_999, L_1000, L_2000, L_9999, L_10000, L_32767, L_12345, e]
  exact ⟨by omega, h⟩
theorem K_defaulted {d i ro : Nat} {S : Nat → Nat} {w : q_Sm} {Q : Int32 → q_Sm → Prop} {X : s_Xo} (ho : ro = 56 ∨ ro = 68) (hS : cR (ro + 1) S w) (hi : i < 10) (h : Q (nI (S (20 + i))) w) : s_EvI (d + 1) 0 mX6_defaulted w [.ref ro, .int (nI i)] Q X := by
  have e := hS (40 + i) (by omega)
  rw [pm_40 (by omega)] at e
  apply eX6_defaulted
  unfold vX6_defaulted_0
  try simp (disch := omega) only [s_Ii, s_Jj, s_Vn, forall_eq, L_m1, nI_add, nI_clamp, nI_leI, nI_ltI, nI_eq, vp_nI, pk_mul, pk_sub, Nat.zero_add, Nat.add_zero, wr_2, Classical.not_not, true_and, and_true, ne_eq, false_implies, true_implies, implies_true, not_true_eq_false, not_false_eq_true, ia_0, ia_1, za_1, ia_2, za_2, ia_3, za_3, ia_4, za_4, ia_5, za_5, ia_6, za_6, ia_7, za_7, ia_8, za_8, ia_9, za_9, ia_10, za_10, ia_11, za_11, ia_12, za_12, ia_13, za_13, ia_14, za_14, ia_15, za_15, ib_0, ib_1, zb_1, ic_0, ic_1, ic_2, ic_3, zc_1, zc_2, zc_3, id_0, id_1, id_2, id_3, zd_1, zd_2, zd_3, L_0, L_1, L_2, L_3, L_4, L_5, L_6, L_7, L_8, L_9, L_10, L_11, L_12, L_13, L_14, L_15, L_16, L_17, L_18, L_19, L_20, L_24, L_27, L_30, L_31, L_32, L_35, L_36, L_40, L_41, L_43, L_44, L_45, L_46, L_47, L_48, L_50, L_54, L_57, L_58, L_59, L_60, L_61, L_62, L_63, L_91, L_93, L_96, L_97, L_98, L_99, L_100, L_103, L_122, L_145, L_150, L_200, L_255, L_600, L_999, L_1000, L_2000, L_9999, L_10000, L_32767, L_12345, e]
  exact ⟨by omega, h⟩
theorem K_unspent {d i ro : Nat} {S : Nat → Nat} {w : q_Sm} {Q : Int32 → q_Sm → Prop} {X : s_Xo} (ho : ro = 56 ∨ ro = 68) (hS : cR (ro + 1) S w) (hi : i < 4) (h : Q (nI (S (50 + i))) w) : s_EvI (d + 1) 0 mX6_unspent w [.ref ro, .int (nI i)] Q X := by
  have e := hS (50 + i) (by omega)
  rw [pm_50 (by omega)] at e
  apply eX6_unspent
  unfold vX6_unspent_0
  try simp (disch := omega) only [s_Ii, s_Jj, s_Vn, forall_eq, L_m1, nI_add, nI_clamp, nI_leI, nI_ltI, nI_eq, vp_nI, pk_mul, pk_sub, Nat.zero_add, Nat.add_zero, wr_2, Classical.not_not, true_and, and_true, ne_eq, false_implies, true_implies, implies_true, not_true_eq_false, not_false_eq_true, ia_0, ia_1, za_1, ia_2, za_2, ia_3, za_3, ia_4, za_4, ia_5, za_5, ia_6, za_6, ia_7, za_7, ia_8, za_8, ia_9, za_9, ia_10, za_10, ia_11, za_11, ia_12, za_12, ia_13, za_13, ia_14, za_14, ia_15, za_15, ib_0, ib_1, zb_1, ic_0, ic_1, ic_2, ic_3, zc_1, zc_2, zc_3, id_0, id_1, id_2, id_3, zd_1, zd_2, zd_3, L_0, L_1, L_2, L_3, L_4, L_5, L_6, L_7, L_8, L_9, L_10, L_11, L_12, L_13, L_14, L_15, L_16, L_17, L_18, L_19, L_20, L_24, L_27, L_30, L_31, L_32, L_35, L_36, L_40, L_41, L_43, L_44, L_45, L_46, L_47, L_48, L_50, L_54, L_57, L_58, L_59, L_60, L_61, L_62, L_63, L_91, L_93, L_96, L_97, L_98, L_99, L_100, L_103, L_122, L_145, L_150, L_200, L_255, L_600, L_999, L_1000, L_2000, L_9999, L_10000, L_32767, L_12345, e]
  exact ⟨by omega, h⟩
theorem K_lent {d i ro : Nat} {S : Nat → Nat} {w : q_Sm} {Q : Int32 → q_Sm → Prop} {X : s_Xo} (ho : ro = 56 ∨ ro = 68) (hS : cR (ro + 1) S w) (hi : i < 4) (h : Q (nI (S (54 + i))) w) : s_EvI (d + 1) 0 mX6_lent w [.ref ro, .int (nI i)] Q X := by
  have e := hS (54 + i) (by omega)
  rw [pm_54 (by omega)] at e
  apply eX6_lent
  unfold vX6_lent_0
  try simp (disch := omega) only [s_Ii, s_Jj, s_Vn, forall_eq, L_m1, nI_add, nI_clamp, nI_leI, nI_ltI, nI_eq, vp_nI, pk_mul, pk_sub, Nat.zero_add, Nat.add_zero, wr_2, Classical.not_not, true_and, and_true, ne_eq, false_implies, true_implies, implies_true, not_true_eq_false, not_false_eq_true, ia_0, ia_1, za_1, ia_2, za_2, ia_3, za_3, ia_4, za_4, ia_5, za_5, ia_6, za_6, ia_7, za_7, ia_8, za_8, ia_9, za_9, ia_10, za_10, ia_11, za_11, ia_12, za_12, ia_13, za_13, ia_14, za_14, ia_15, za_15, ib_0, ib_1, zb_1, ic_0, ic_1, ic_2, ic_3, zc_1, zc_2, zc_3, id_0, id_1, id_2, id_3, zd_1, zd_2, zd_3, L_0, L_1, L_2, L_3, L_4, L_5, L_6, L_7, L_8, L_9, L_10, L_11, L_12, L_13, L_14, L_15, L_16, L_17, L_18, L_19, L_20, L_24, L_27, L_30, L_31, L_32, L_35, L_36, L_40, L_41, L_43, L_44, L_45, L_46, L_47, L_48, L_50, L_54, L_57, L_58, L_59, L_60, L_61, L_62, L_63, L_91, L_93, L_96, L_97, L_98, L_99, L_100, L_103, L_122, L_145, L_150, L_200, L_255, L_600, L_999, L_1000, L_2000, L_9999, L_10000, L_32767, L_12345, e]
  exact ⟨by omega, h⟩
theorem K_today {d ro : Nat} {S : Nat → Nat} {w : q_Sm} {Q : Int32 → q_Sm → Prop} {X : s_Xo} (ho : ro = 56 ∨ ro = 68) (hS : cR (ro + 1) S w) (h : Q (nI (S 62)) w) : s_EvI (d + 1) 0 mX6_today w [.ref ro] Q X := by
  have e := hS 58 (by omega)
  rw [pm_58] at e
  apply eX6_today
  unfold vX6_today_0
  try simp (disch := omega) only [s_Ii, s_Jj, s_Vn, forall_eq, L_m1, nI_add, nI_clamp, nI_leI, nI_ltI, nI_eq, vp_nI, pk_mul, pk_sub, Nat.zero_add, Nat.add_zero, wr_2, Classical.not_not, true_and, and_true, ne_eq, false_implies, true_implies, implies_true, not_true_eq_false, not_false_eq_true, ia_0, ia_1, za_1, ia_2, za_2, ia_3, za_3, ia_4, za_4, ia_5, za_5, ia_6, za_6, ia_7, za_7, ia_8, za_8, ia_9, za_9, ia_10, za_10, ia_11, za_11, ia_12, za_12, ia_13, za_13, ia_14, za_14, ia_15, za_15, ib_0, ib_1, zb_1, ic_0, ic_1, ic_2, ic_3, zc_1, zc_2, zc_3, id_0, id_1, id_2, id_3, zd_1, zd_2, zd_3, L_0, L_1, L_2, L_3, L_4, L_5, L_6, L_7, L_8, L_9, L_10, L_11, L_12, L_13, L_14, L_15, L_16, L_17, L_18, L_19, L_20, L_24, L_27, L_30, L_31, L_32, L_35, L_36, L_40, L_41, L_43, L_44, L_45, L_46, L_47, L_48, L_50, L_54, L_57, L_58, L_59, L_60, L_61, L_62, L_63, L_91, L_93, L_96, L_97, L_98, L_99, L_100, L_103, L_122, L_145, L_150, L_200, L_255, L_600, L_999, L_1000, L_2000, L_9999, L_10000, L_32767, L_12345, e]
  exact ⟨by omega, h⟩
theorem K_shine {d e k o l n : Nat} {T : Tb} {β C : Nat → Nat} {w : q_Sm} {Q : Int32 → q_Sm → Prop} {X : s_Xo} (hE : KE o l T β C n w) (he : e < 2 ^ 31) (hk : k < 4) (h : Q (nI (m_light T e k)) w) : s_EvI (d + 1) 0 mX2_shine w [.ref o, .int (nI e), .int (nI k)] Q X := by
  refine cI (k_shine hE.1 hE.2.2.1 hE.2.2.2.1 he hk) ?_
  rintro _ _ ⟨rfl, rfl⟩
  exact h
/-- what is read of the class's coast -/
theorem KE.nd {o l n : Nat} {T : Tb} {β C : Nat → Nat} {w : q_Sm} (h : KE o l T β C n w) : w.1 o 3 = nI (T 7 1) := h.2.2.2.1.1.2.1
theorem KE.nc {o l n : Nat} {T : Tb} {β C : Nat → Nat} {w : q_Sm} (h : KE o l T β C n w) : w.1 o 0 = nI (T 7 0) := h.2.2.2.1.1.1
theorem KE.cell {o l n : Nat} {T : Tb} {β C : Nat → Nat} {w : q_Sm} (h : KE o l T β C n w) {c : Nat} (hc : c < T 7 0) : w.1 (o + 1) c = nI (T 0 (2 * c)) := h.2.2.2.1.2.1.1 c hc
theorem KE.col {o l n : Nat} {T : Tb} {β C : Nat → Nat} {w : q_Sm} (h : KE o l T β C n w) {c : Nat} (hc : c < T 7 1) : w.1 (o + 4) c = nI (cl T c) := h.2.2.2.1.2.2.1.2.1 c hc
theorem KE.rate {o l n : Nat} {T : Tb} {β C : Nat → Nat} {w : q_Sm} (h : KE o l T β C n w) {c : Nat} (hc : c < T 7 1) : w.1 (o + 6) c = nI (T 1 (5 * c + 3)) := h.2.2.2.1.2.2.1.2.2.2.1 c hc
theorem KE.term {o l n : Nat} {T : Tb} {β C : Nat → Nat} {w : q_Sm} (h : KE o l T β C n w) {c : Nat} (hc : c < T 7 1) : w.1 (o + 7) c = nI (tm T c) := h.2.2.2.1.2.2.1.2.2.2.2.1 c hc
theorem KE.by {o l n : Nat} {T : Tb} {β C : Nat → Nat} {w : q_Sm} (h : KE o l T β C n w) {c : Nat} (hc : c < T 7 1) : w.1 (o + 8) c = nI (β c) := h.2.2.2.1.2.2.1.2.2.2.2.2.1 c hc
theorem KE.ord {o l n : Nat} {T : Tb} {β C : Nat → Nat} {w : q_Sm} (h : KE o l T β C n w) : ordered T β := h.2.2.2.1.2.2.1.2.2.2.2.2.2
/-- the class's rows and scratch of the law -/
def aR (ro i j : Nat) : Bool := i == ro + 1 || aL i j
theorem aL_aR (ro i j : Nat) (h : aL i j = true) : aR ro i j = true := by simp [aR, h]
theorem aR_s (ro j : Nat) : aR ro (ro + 1) j = true := by simp [aR]
theorem KE.f {o l n : Nat} {T : Tb} {β C : Nat → Nat} {w u : q_Sm} {A : Nat → Nat → Bool} (h : KE o l T β C n w) (f : fr A w u) (hA : ∀ i j, i < 38 ∨ i = 40 ∨ i = 41 → A i j = false) : KE o l T β C n u := h.eq (fun i j q => f.2 i j (hA i j q))
theorem aL_lo (i j : Nat) (h : i < 38 ∨ i = 40 ∨ i = 41) : aL i j = false := by simp [aL]; omega
theorem aR_lo {ro : Nat} (ho : ro = 56 ∨ ro = 68) (i j : Nat) (h : i < 38 ∨ i = 40 ∨ i = 41) : aR ro i j = false := by
  unfold aR
  rw [aL_lo i j h]
  simp
  omega
theorem K_growthOf {d o l n i p e j ro : Nat} {T : Tb} {β C S : Nat → Nat} {w : q_Sm} {Q : Int32 → q_Sm → Prop} {X : s_Xo} (hE : KE o l T β C n w) (ho : ro = 56 ∨ ro = 68) (hS : cR (ro + 1) S w) (hi : i < T 7 1) (hB : S (10 + i) < T 7 0) (hp : p < 2 ^ 31) (he : e ≤ 10000)
    (h : ∀ u, fr aL w u → Q (nI (gw T C n S i p j e)) u) : s_EvI (d + 3) 0 mX6_growthOf w [.ref ro, .int (nI i), .int (nI p), .int (nI j), .int (nI e), .ref o, .ref l] Q X := by
  have hb := tb_nd hE.2.2.1
  have hc := tb_nc hE.2.2.1
  have ht := tb_tm hE.2.2.1 hi
  have hoo := hE.1
  have hl := hE.2.1
  apply eX6_growthOf
  unfold vX6_growthOf_0
  try simp (disch := omega) only [s_Ii, s_Jj, s_Vn, forall_eq, L_m1, nI_add, nI_clamp, nI_leI, nI_ltI, nI_eq, vp_nI, pk_mul, pk_sub, Nat.zero_add, Nat.add_zero, wr_2, Classical.not_not, true_and, and_true, ne_eq, false_implies, true_implies, implies_true, not_true_eq_false, not_false_eq_true, ia_0, ia_1, za_1, ia_2, za_2, ia_3, za_3, ia_4, za_4, ia_5, za_5, ia_6, za_6, ia_7, za_7, ia_8, za_8, ia_9, za_9, ia_10, za_10, ia_11, za_11, ia_12, za_12, ia_13, za_13, ia_14, za_14, ia_15, za_15, ib_0, ib_1, zb_1, ic_0, ic_1, ic_2, ic_3, zc_1, zc_2, zc_3, id_0, id_1, id_2, id_3, zd_1, zd_2, zd_3, L_0, L_1, L_2, L_3, L_4, L_5, L_6, L_7, L_8, L_9, L_10, L_11, L_12, L_13, L_14, L_15, L_16, L_17, L_18, L_19, L_20, L_24, L_27, L_30, L_31, L_32, L_35, L_36, L_40, L_41, L_43, L_44, L_45, L_46, L_47, L_48, L_50, L_54, L_57, L_58, L_59, L_60, L_61, L_62, L_63, L_91, L_93, L_96, L_97, L_98, L_99, L_100, L_103, L_122, L_145, L_150, L_200, L_255, L_600, L_999, L_1000, L_2000, L_9999, L_10000, L_32767, L_12345, hE.term hi]
  refine ⟨fun z => ⟨by omega, ?_⟩, fun z => ?_⟩
  · have key : s_EvI (d + 2) 0 mX6_holder w [.ref ro, .int (nI i)] (fun v3 u4 => (vp_in v3 6) ∧ (vp_in (nI i) 10) ∧ (vp_in (nI i) 10) ∧ s_EvI (d + 2) 0 mX5_growth u4 [.ref l, .int (nI p), .int (u4.1 (o + 6) i), .int (nI (e - tm T i)), .int (nI e), .int (nI j), .int (u4.1 (o + 4) i), .int (u4.1 (o + 1) (Int32.toNatClampNeg v3))] Q X) X := by
      refine K_holder ho hS (by omega) ?_
      try simp (disch := omega) only [s_Ii, s_Jj, s_Vn, forall_eq, L_m1, nI_add, nI_clamp, nI_leI, nI_ltI, nI_eq, vp_nI, pk_mul, pk_sub, Nat.zero_add, Nat.add_zero, wr_2, Classical.not_not, true_and, and_true, ne_eq, false_implies, true_implies, implies_true, not_true_eq_false, not_false_eq_true, ia_0, ia_1, za_1, ia_2, za_2, ia_3, za_3, ia_4, za_4, ia_5, za_5, ia_6, za_6, ia_7, za_7, ia_8, za_8, ia_9, za_9, ia_10, za_10, ia_11, za_11, ia_12, za_12, ia_13, za_13, ia_14, za_14, ia_15, za_15, ib_0, ib_1, zb_1, ic_0, ic_1, ic_2, ic_3, zc_1, zc_2, zc_3, id_0, id_1, id_2, id_3, zd_1, zd_2, zd_3, L_0, L_1, L_2, L_3, L_4, L_5, L_6, L_7, L_8, L_9, L_10, L_11, L_12, L_13, L_14, L_15, L_16, L_17, L_18, L_19, L_20, L_24, L_27, L_30, L_31, L_32, L_35, L_36, L_40, L_41, L_43, L_44, L_45, L_46, L_47, L_48, L_50, L_54, L_57, L_58, L_59, L_60, L_61, L_62, L_63, L_91, L_93, L_96, L_97, L_98, L_99, L_100, L_103, L_122, L_145, L_150, L_200, L_255, L_600, L_999, L_1000, L_2000, L_9999, L_10000, L_32767, L_12345, hE.cell hB, hE.rate hi, hE.col hi]
      refine ⟨by omega, by omega, by omega, k_growth hE (fun u hu => ?_)⟩
      have e1 : gw T C n S i p j e = gv C n (fa T S i p j e) := by simp [gw, show p ≠ 0 by omega]
      have := h u hu
      rw [e1] at this
      exact this
    by_cases z2 : tm T i ≤ e
    · rw [pk_sub z2]
      refine k_maxN (by omega) (by omega) ?_
      try simp (disch := omega) only [s_Ii, s_Jj, s_Vn, forall_eq, L_m1, nI_add, nI_clamp, nI_leI, nI_ltI, nI_eq, vp_nI, pk_mul, pk_sub, Nat.zero_add, Nat.add_zero, wr_2, Classical.not_not, true_and, and_true, ne_eq, false_implies, true_implies, implies_true, not_true_eq_false, not_false_eq_true, ia_0, ia_1, za_1, ia_2, za_2, ia_3, za_3, ia_4, za_4, ia_5, za_5, ia_6, za_6, ia_7, za_7, ia_8, za_8, ia_9, za_9, ia_10, za_10, ia_11, za_11, ia_12, za_12, ia_13, za_13, ia_14, za_14, ia_15, za_15, ib_0, ib_1, zb_1, ic_0, ic_1, ic_2, ic_3, zc_1, zc_2, zc_3, id_0, id_1, id_2, id_3, zd_1, zd_2, zd_3, L_0, L_1, L_2, L_3, L_4, L_5, L_6, L_7, L_8, L_9, L_10, L_11, L_12, L_13, L_14, L_15, L_16, L_17, L_18, L_19, L_20, L_24, L_27, L_30, L_31, L_32, L_35, L_36, L_40, L_41, L_43, L_44, L_45, L_46, L_47, L_48, L_50, L_54, L_57, L_58, L_59, L_60, L_61, L_62, L_63, L_91, L_93, L_96, L_97, L_98, L_99, L_100, L_103, L_122, L_145, L_150, L_200, L_255, L_600, L_999, L_1000, L_2000, L_9999, L_10000, L_32767, L_12345]
      rw [Nat.max_eq_right (by omega)]
      revert key
      try simp (disch := omega) only [s_Ii, s_Jj, s_Vn, forall_eq, L_m1, nI_add, nI_clamp, nI_leI, nI_ltI, nI_eq, vp_nI, pk_mul, pk_sub, Nat.zero_add, Nat.add_zero, wr_2, Classical.not_not, true_and, and_true, ne_eq, false_implies, true_implies, implies_true, not_true_eq_false, not_false_eq_true, ia_0, ia_1, za_1, ia_2, za_2, ia_3, za_3, ia_4, za_4, ia_5, za_5, ia_6, za_6, ia_7, za_7, ia_8, za_8, ia_9, za_9, ia_10, za_10, ia_11, za_11, ia_12, za_12, ia_13, za_13, ia_14, za_14, ia_15, za_15, ib_0, ib_1, zb_1, ic_0, ic_1, ic_2, ic_3, zc_1, zc_2, zc_3, id_0, id_1, id_2, id_3, zd_1, zd_2, zd_3, L_0, L_1, L_2, L_3, L_4, L_5, L_6, L_7, L_8, L_9, L_10, L_11, L_12, L_13, L_14, L_15, L_16, L_17, L_18, L_19, L_20, L_24, L_27, L_30, L_31, L_32, L_35, L_36, L_40, L_41, L_43, L_44, L_45, L_46, L_47, L_48, L_50, L_54, L_57, L_58, L_59, L_60, L_61, L_62, L_63, L_91, L_93, L_96, L_97, L_98, L_99, L_100, L_103, L_122, L_145, L_150, L_200, L_255, L_600, L_999, L_1000, L_2000, L_9999, L_10000, L_32767, L_12345]
      exact fun q => q
    · have z3 : nI e - nI (tm T i) < 0 := pk_sneg (by omega) (by omega)
      refine k_max ?_
      have z4 : e - tm T i = 0 := by omega
      rw [← L_0, if_neg (fun q => absurd (Int32.lt_trans q z3) (by decide)), L_0]
      rw [z4] at key
      try simp (disch := omega) only [s_Ii, s_Jj, s_Vn, forall_eq, L_m1, nI_add, nI_clamp, nI_leI, nI_ltI, nI_eq, vp_nI, pk_mul, pk_sub, Nat.zero_add, Nat.add_zero, wr_2, Classical.not_not, true_and, and_true, ne_eq, false_implies, true_implies, implies_true, not_true_eq_false, not_false_eq_true, ia_0, ia_1, za_1, ia_2, za_2, ia_3, za_3, ia_4, za_4, ia_5, za_5, ia_6, za_6, ia_7, za_7, ia_8, za_8, ia_9, za_9, ia_10, za_10, ia_11, za_11, ia_12, za_12, ia_13, za_13, ia_14, za_14, ia_15, za_15, ib_0, ib_1, zb_1, ic_0, ic_1, ic_2, ic_3, zc_1, zc_2, zc_3, id_0, id_1, id_2, id_3, zd_1, zd_2, zd_3, L_0, L_1, L_2, L_3, L_4, L_5, L_6, L_7, L_8, L_9, L_10, L_11, L_12, L_13, L_14, L_15, L_16, L_17, L_18, L_19, L_20, L_24, L_27, L_30, L_31, L_32, L_35, L_36, L_40, L_41, L_43, L_44, L_45, L_46, L_47, L_48, L_50, L_54, L_57, L_58, L_59, L_60, L_61, L_62, L_63, L_91, L_93, L_96, L_97, L_98, L_99, L_100, L_103, L_122, L_145, L_150, L_200, L_255, L_600, L_999, L_1000, L_2000, L_9999, L_10000, L_32767, L_12345]
      revert key
      try simp (disch := omega) only [s_Ii, s_Jj, s_Vn, forall_eq, L_m1, nI_add, nI_clamp, nI_leI, nI_ltI, nI_eq, vp_nI, pk_mul, pk_sub, Nat.zero_add, Nat.add_zero, wr_2, Classical.not_not, true_and, and_true, ne_eq, false_implies, true_implies, implies_true, not_true_eq_false, not_false_eq_true, ia_0, ia_1, za_1, ia_2, za_2, ia_3, za_3, ia_4, za_4, ia_5, za_5, ia_6, za_6, ia_7, za_7, ia_8, za_8, ia_9, za_9, ia_10, za_10, ia_11, za_11, ia_12, za_12, ia_13, za_13, ia_14, za_14, ia_15, za_15, ib_0, ib_1, zb_1, ic_0, ic_1, ic_2, ic_3, zc_1, zc_2, zc_3, id_0, id_1, id_2, id_3, zd_1, zd_2, zd_3, L_0, L_1, L_2, L_3, L_4, L_5, L_6, L_7, L_8, L_9, L_10, L_11, L_12, L_13, L_14, L_15, L_16, L_17, L_18, L_19, L_20, L_24, L_27, L_30, L_31, L_32, L_35, L_36, L_40, L_41, L_43, L_44, L_45, L_46, L_47, L_48, L_50, L_54, L_57, L_58, L_59, L_60, L_61, L_62, L_63, L_91, L_93, L_96, L_97, L_98, L_99, L_100, L_103, L_122, L_145, L_150, L_200, L_255, L_600, L_999, L_1000, L_2000, L_9999, L_10000, L_32767, L_12345]
      exact fun q => q
  · have e1 : gw T C n S i p j e = 0 := by simp [gw, show p = 0 by omega]
    have := h w (fr.refl _ _)
    rw [e1] at this
    exact this
theorem K_growth {d o l n i ro : Nat} {T : Tb} {β C S : Nat → Nat} {w : q_Sm} {Q : Int32 → q_Sm → Prop} {X : s_Xo} (hE : KE o l T β C n w) (ho : ro = 56 ∨ ro = 68) (hS : cR (ro + 1) S w) (hi : i < T 7 1) (hB : S i ≤ 9999 ∧ S (10 + i) < T 7 0) (he : S 62 ≤ 10000)
    (h : ∀ u, fr aL w u → Q (nI (gw T C n S i (S i) (S (40 + i)) (S 62))) u) : s_EvI (d + 4) 0 mX6_growth w [.ref ro, .int (nI i), .ref o, .ref l] Q X := by
  have hb := tb_nd hE.2.2.1
  apply eX6_growth
  unfold vX6_growth_0
  refine ⟨ib_0 ho, K_owed ho hS (by omega) ⟨ib_0 ho, K_paidToday ho hS (by omega) ⟨ib_0 ho, K_today ho hS ⟨ib_0 ho, K_growthOf hE ho hS hi hB.2 (by omega) he (fun u hu => ?_)⟩⟩⟩⟩
  rw [s_Ii]
  exact h u hu
theorem K_pay {d o l n i m ro : Nat} {T : Tb} {β C S : Nat → Nat} {w : q_Sm} {Q : Int32 → q_Sm → Prop} {X : s_Xo} (hE : KE o l T β C n w) (ho : ro = 56 ∨ ro = 68) (hS : cR (ro + 1) S w) (hi : i < T 7 1) (hB : S i ≤ 9999 ∧ S (50 + cl T i) ≤ 139) (hm : m < 2 ^ 31)
    (h1 : canP T S i m → ∀ u, fr (aR ro) w u → cR (ro + 1) (pyS T S i m) u → Q (nI 1) u) (h0 : ¬ canP T S i m → Q (nI 0) w) : s_EvI (d + 2) 0 mX6_pay w [.ref ro, .ref o, .int (nI i), .int (nI m)] Q X := by
  have hb := tb_nd hE.2.2.1
  have hc := tb_cl hE.2.2.1 hi
  have hoo := hE.1
  apply eX6_pay
  unfold vX6_pay_0
  try simp (disch := omega) only [s_Ii, s_Jj, s_Vn, forall_eq, L_m1, nI_add, nI_clamp, nI_leI, nI_ltI, nI_eq, vp_nI, pk_mul, pk_sub, Nat.zero_add, Nat.add_zero, wr_2, Classical.not_not, true_and, and_true, ne_eq, false_implies, true_implies, implies_true, not_true_eq_false, not_false_eq_true, ia_0, ia_1, za_1, ia_2, za_2, ia_3, za_3, ia_4, za_4, ia_5, za_5, ia_6, za_6, ia_7, za_7, ia_8, za_8, ia_9, za_9, ia_10, za_10, ia_11, za_11, ia_12, za_12, ia_13, za_13, ia_14, za_14, ia_15, za_15, ib_0, ib_1, zb_1, ic_0, ic_1, ic_2, ic_3, zc_1, zc_2, zc_3, id_0, id_1, id_2, id_3, zd_1, zd_2, zd_3, L_0, L_1, L_2, L_3, L_4, L_5, L_6, L_7, L_8, L_9, L_10, L_11, L_12, L_13, L_14, L_15, L_16, L_17, L_18, L_19, L_20, L_24, L_27, L_30, L_31, L_32, L_35, L_36, L_40, L_41, L_43, L_44, L_45, L_46, L_47, L_48, L_50, L_54, L_57, L_58, L_59, L_60, L_61, L_62, L_63, L_91, L_93, L_96, L_97, L_98, L_99, L_100, L_103, L_122, L_145, L_150, L_200, L_255, L_600, L_999, L_1000, L_2000, L_9999, L_10000, L_32767, L_12345, hE.col hi]
  refine ⟨by omega, fun z => h0 (fun q => q.1 (by omega)), fun z => K_owed ho hS (by omega) ?_⟩
  try simp (disch := omega) only [s_Ii, s_Jj, s_Vn, forall_eq, L_m1, nI_add, nI_clamp, nI_leI, nI_ltI, nI_eq, vp_nI, pk_mul, pk_sub, Nat.zero_add, Nat.add_zero, wr_2, Classical.not_not, true_and, and_true, ne_eq, false_implies, true_implies, implies_true, not_true_eq_false, not_false_eq_true, ia_0, ia_1, za_1, ia_2, za_2, ia_3, za_3, ia_4, za_4, ia_5, za_5, ia_6, za_6, ia_7, za_7, ia_8, za_8, ia_9, za_9, ia_10, za_10, ia_11, za_11, ia_12, za_12, ia_13, za_13, ia_14, za_14, ia_15, za_15, ib_0, ib_1, zb_1, ic_0, ic_1, ic_2, ic_3, zc_1, zc_2, zc_3, id_0, id_1, id_2, id_3, zd_1, zd_2, zd_3, L_0, L_1, L_2, L_3, L_4, L_5, L_6, L_7, L_8, L_9, L_10, L_11, L_12, L_13, L_14, L_15, L_16, L_17, L_18, L_19, L_20, L_24, L_27, L_30, L_31, L_32, L_35, L_36, L_40, L_41, L_43, L_44, L_45, L_46, L_47, L_48, L_50, L_54, L_57, L_58, L_59, L_60, L_61, L_62, L_63, L_91, L_93, L_96, L_97, L_98, L_99, L_100, L_103, L_122, L_145, L_150, L_200, L_255, L_600, L_999, L_1000, L_2000, L_9999, L_10000, L_32767, L_12345]
  refine ⟨fun z2 => h0 (fun q => absurd q.2.2 (by omega)), fun z2 => K_unspent ho hS hc ?_⟩
  try simp (disch := omega) only [s_Ii, s_Jj, s_Vn, forall_eq, L_m1, nI_add, nI_clamp, nI_leI, nI_ltI, nI_eq, vp_nI, pk_mul, pk_sub, Nat.zero_add, Nat.add_zero, wr_2, Classical.not_not, true_and, and_true, ne_eq, false_implies, true_implies, implies_true, not_true_eq_false, not_false_eq_true, ia_0, ia_1, za_1, ia_2, za_2, ia_3, za_3, ia_4, za_4, ia_5, za_5, ia_6, za_6, ia_7, za_7, ia_8, za_8, ia_9, za_9, ia_10, za_10, ia_11, za_11, ia_12, za_12, ia_13, za_13, ia_14, za_14, ia_15, za_15, ib_0, ib_1, zb_1, ic_0, ic_1, ic_2, ic_3, zc_1, zc_2, zc_3, id_0, id_1, id_2, id_3, zd_1, zd_2, zd_3, L_0, L_1, L_2, L_3, L_4, L_5, L_6, L_7, L_8, L_9, L_10, L_11, L_12, L_13, L_14, L_15, L_16, L_17, L_18, L_19, L_20, L_24, L_27, L_30, L_31, L_32, L_35, L_36, L_40, L_41, L_43, L_44, L_45, L_46, L_47, L_48, L_50, L_54, L_57, L_58, L_59, L_60, L_61, L_62, L_63, L_91, L_93, L_96, L_97, L_98, L_99, L_100, L_103, L_122, L_145, L_150, L_200, L_255, L_600, L_999, L_1000, L_2000, L_9999, L_10000, L_32767, L_12345]
  refine ⟨fun z3 => ?_, fun z3 => h0 (fun q => z3 q.2.1)⟩
  have k1 := hS.put (k := 50 + cl T i) (v := S (50 + cl T i) - m) (by omega) (pm_50 hc)
  have k2 := k1.put (k := i) (v := S i - m) (by omega) (pm_0 (by omega))
  have k3 := k2.put (k := 20 + i) (v := S (30 + i) + m) (by omega) (pm_20 (by omega))
  have k4 := k3.put (k := 30 + i) (v := S (40 + i) + m) (by omega) (pm_30 (by omega))
  have k5 := k4.skip (k' := 58 + cl T i) (v := S (58 + cl T i) + m) (by omega) (by omega)
  try simp (disch := omega) only [s_Ii, s_Jj, s_Vn, forall_eq, L_m1, nI_add, nI_clamp, nI_leI, nI_ltI, nI_eq, vp_nI, pk_mul, pk_sub, Nat.zero_add, Nat.add_zero, wr_2, Classical.not_not, true_and, and_true, ne_eq, false_implies, true_implies, implies_true, not_true_eq_false, not_false_eq_true, ia_0, ia_1, za_1, ia_2, za_2, ia_3, za_3, ia_4, za_4, ia_5, za_5, ia_6, za_6, ia_7, za_7, ia_8, za_8, ia_9, za_9, ia_10, za_10, ia_11, za_11, ia_12, za_12, ia_13, za_13, ia_14, za_14, ia_15, za_15, ib_0, ib_1, zb_1, ic_0, ic_1, ic_2, ic_3, zc_1, zc_2, zc_3, id_0, id_1, id_2, id_3, zd_1, zd_2, zd_3, L_0, L_1, L_2, L_3, L_4, L_5, L_6, L_7, L_8, L_9, L_10, L_11, L_12, L_13, L_14, L_15, L_16, L_17, L_18, L_19, L_20, L_24, L_27, L_30, L_31, L_32, L_35, L_36, L_40, L_41, L_43, L_44, L_45, L_46, L_47, L_48, L_50, L_54, L_57, L_58, L_59, L_60, L_61, L_62, L_63, L_91, L_93, L_96, L_97, L_98, L_99, L_100, L_103, L_122, L_145, L_150, L_200, L_255, L_600, L_999, L_1000, L_2000, L_9999, L_10000, L_32767, L_12345, hS _, k1 _, k2 _, k3 _, pm_0, pm_20, pm_30, pm_50, up_n]
  refine ⟨by omega, by omega, by omega, by omega, by omega, by omega, by omega, by omega, h1 ⟨by omega, by omega, by omega⟩ _ ?_ k5⟩
  exact ((((fr.refl (aR ro) w).put (aR_s _ _)).put (aR_s _ _)).put (aR_s _ _)).put (aR_s _ _)
theorem K_takeLight {d o l n ro : Nat} {T : Tb} {β C S : Nat → Nat} {w : q_Sm} {Q : q_Sm → Prop} {X : s_Xo} (hE : KE o l T β C n w) (ho : ro = 56 ∨ ro = 68) (hS : cR (ro + 1) S w) (h62 : S 62 ≤ 10001)
    (h : ∀ u, fr (aR ro) w u → cR (ro + 1) (ltS T S (S 62) 4) u → Q u) : s_EvV (d + 2) 0 mX6_takeLight w [.ref ro, .ref o] Q X := by
  have hoo := hE.1
  have loop : ∀ k, k ≤ 4 → ∀ u, fr (aR ro) w u → cR (ro + 1) (ltS T S (S 62) k) u → s_Ex (d + 2) 0 mX6_takeLight 2 [some (.ref ro), some (.ref o), some (.int (nI k))] [] u (s_V Q) X := by
    refine n_down ?_ ?_
    · intro u hu hr
      apply xX6_takeLight_2
      unfold vX6_takeLight_2
      exact ⟨fun _ => ⟨rfl, h u hu hr⟩, fun z => absurd (show nI 4 ≤ nI 4 from nI_le (by omega) (by omega)) z⟩
    · intro k hk ih u hu hr
      apply xX6_takeLight_2
      unfold vX6_takeLight_2
      try simp (disch := omega) only [s_Ii, s_Jj, s_Vn, forall_eq, L_m1, nI_add, nI_clamp, nI_leI, nI_ltI, nI_eq, vp_nI, pk_mul, pk_sub, Nat.zero_add, Nat.add_zero, wr_2, Classical.not_not, true_and, and_true, ne_eq, false_implies, true_implies, implies_true, not_true_eq_false, not_false_eq_true, ia_0, ia_1, za_1, ia_2, za_2, ia_3, za_3, ia_4, za_4, ia_5, za_5, ia_6, za_6, ia_7, za_7, ia_8, za_8, ia_9, za_9, ia_10, za_10, ia_11, za_11, ia_12, za_12, ia_13, za_13, ia_14, za_14, ia_15, za_15, ib_0, ib_1, zb_1, ic_0, ic_1, ic_2, ic_3, zc_1, zc_2, zc_3, id_0, id_1, id_2, id_3, zd_1, zd_2, zd_3, L_0, L_1, L_2, L_3, L_4, L_5, L_6, L_7, L_8, L_9, L_10, L_11, L_12, L_13, L_14, L_15, L_16, L_17, L_18, L_19, L_20, L_24, L_27, L_30, L_31, L_32, L_35, L_36, L_40, L_41, L_43, L_44, L_45, L_46, L_47, L_48, L_50, L_54, L_57, L_58, L_59, L_60, L_61, L_62, L_63, L_91, L_93, L_96, L_97, L_98, L_99, L_100, L_103, L_122, L_145, L_150, L_200, L_255, L_600, L_999, L_1000, L_2000, L_9999, L_10000, L_32767, L_12345]
      refine ⟨fun z => absurd z (by omega), fun _ => K_today ho hr ?_⟩
      rw [ltS_o _ (by omega) (by omega)]
      try simp (disch := omega) only [s_Ii, s_Jj, s_Vn, forall_eq, L_m1, nI_add, nI_clamp, nI_leI, nI_ltI, nI_eq, vp_nI, pk_mul, pk_sub, Nat.zero_add, Nat.add_zero, wr_2, Classical.not_not, true_and, and_true, ne_eq, false_implies, true_implies, implies_true, not_true_eq_false, not_false_eq_true, ia_0, ia_1, za_1, ia_2, za_2, ia_3, za_3, ia_4, za_4, ia_5, za_5, ia_6, za_6, ia_7, za_7, ia_8, za_8, ia_9, za_9, ia_10, za_10, ia_11, za_11, ia_12, za_12, ia_13, za_13, ia_14, za_14, ia_15, za_15, ib_0, ib_1, zb_1, ic_0, ic_1, ic_2, ic_3, zc_1, zc_2, zc_3, id_0, id_1, id_2, id_3, zd_1, zd_2, zd_3, L_0, L_1, L_2, L_3, L_4, L_5, L_6, L_7, L_8, L_9, L_10, L_11, L_12, L_13, L_14, L_15, L_16, L_17, L_18, L_19, L_20, L_24, L_27, L_30, L_31, L_32, L_35, L_36, L_40, L_41, L_43, L_44, L_45, L_46, L_47, L_48, L_50, L_54, L_57, L_58, L_59, L_60, L_61, L_62, L_63, L_91, L_93, L_96, L_97, L_98, L_99, L_100, L_103, L_122, L_145, L_150, L_200, L_255, L_600, L_999, L_1000, L_2000, L_9999, L_10000, L_32767, L_12345]
      refine K_shine (hE.f hu (aR_lo ho)) (by omega) hk ?_
      try simp (disch := omega) only [s_Ii, s_Jj, s_Vn, forall_eq, L_m1, nI_add, nI_clamp, nI_leI, nI_ltI, nI_eq, vp_nI, pk_mul, pk_sub, Nat.zero_add, Nat.add_zero, wr_2, Classical.not_not, true_and, and_true, ne_eq, false_implies, true_implies, implies_true, not_true_eq_false, not_false_eq_true, ia_0, ia_1, za_1, ia_2, za_2, ia_3, za_3, ia_4, za_4, ia_5, za_5, ia_6, za_6, ia_7, za_7, ia_8, za_8, ia_9, za_9, ia_10, za_10, ia_11, za_11, ia_12, za_12, ia_13, za_13, ia_14, za_14, ia_15, za_15, ib_0, ib_1, zb_1, ic_0, ic_1, ic_2, ic_3, zc_1, zc_2, zc_3, id_0, id_1, id_2, id_3, zd_1, zd_2, zd_3, L_0, L_1, L_2, L_3, L_4, L_5, L_6, L_7, L_8, L_9, L_10, L_11, L_12, L_13, L_14, L_15, L_16, L_17, L_18, L_19, L_20, L_24, L_27, L_30, L_31, L_32, L_35, L_36, L_40, L_41, L_43, L_44, L_45, L_46, L_47, L_48, L_50, L_54, L_57, L_58, L_59, L_60, L_61, L_62, L_63, L_91, L_93, L_96, L_97, L_98, L_99, L_100, L_103, L_122, L_145, L_150, L_200, L_255, L_600, L_999, L_1000, L_2000, L_9999, L_10000, L_32767, L_12345]
      exact ⟨by omega, ih _ (hu.put (aR_s _ _)) (hr.put (by omega) (pm_50 hk))⟩
  apply eX6_takeLight
  unfold vX6_takeLight_0
  exact loop 0 (by omega) w (fr.refl _ _) hS
theorem K_pass {d o l n ro : Nat} {T : Tb} {β C S : Nat → Nat} {w : q_Sm} {Q : Int32 → q_Sm → Prop} {X : s_Xo} (hE : KE o l T β C n w) (ho : ro = 56 ∨ ro = 68) (hS : cR (ro + 1) S w) (hB : rb T S) (h200 : S 62 ≤ 200)
    (h1 : S 62 ≠ 200 → ∀ u, fr (aR ro) w u → cR (ro + 1) (psS T C n S) u → Q (nI 1) u) (h0 : S 62 = 200 → Q (nI 0) w) : s_EvI (d + 4) 0 mX6_pass w [.ref ro, .ref o, .ref l] Q X := by
  have hb := tb_nd hE.2.2.1
  have hoo := hE.1
  apply eX6_pass
  unfold vX6_pass_0
  refine ⟨ib_0 ho, K_today ho hS ?_⟩
  try simp (disch := omega) only [s_Ii, s_Jj, s_Vn, forall_eq, L_m1, nI_add, nI_clamp, nI_leI, nI_ltI, nI_eq, vp_nI, pk_mul, pk_sub, Nat.zero_add, Nat.add_zero, wr_2, Classical.not_not, true_and, and_true, ne_eq, false_implies, true_implies, implies_true, not_true_eq_false, not_false_eq_true, ia_0, ia_1, za_1, ia_2, za_2, ia_3, za_3, ia_4, za_4, ia_5, za_5, ia_6, za_6, ia_7, za_7, ia_8, za_8, ia_9, za_9, ia_10, za_10, ia_11, za_11, ia_12, za_12, ia_13, za_13, ia_14, za_14, ia_15, za_15, ib_0, ib_1, zb_1, ic_0, ic_1, ic_2, ic_3, zc_1, zc_2, zc_3, id_0, id_1, id_2, id_3, zd_1, zd_2, zd_3, L_0, L_1, L_2, L_3, L_4, L_5, L_6, L_7, L_8, L_9, L_10, L_11, L_12, L_13, L_14, L_15, L_16, L_17, L_18, L_19, L_20, L_24, L_27, L_30, L_31, L_32, L_35, L_36, L_40, L_41, L_43, L_44, L_45, L_46, L_47, L_48, L_50, L_54, L_57, L_58, L_59, L_60, L_61, L_62, L_63, L_91, L_93, L_96, L_97, L_98, L_99, L_100, L_103, L_122, L_145, L_150, L_200, L_255, L_600, L_999, L_1000, L_2000, L_9999, L_10000, L_32767, L_12345]
  refine ⟨fun z => ?_, fun z => h0 (by omega)⟩
  have hz : S 62 ≠ 200 := by omega
  have loop : ∀ i, i ≤ T 7 1 → ∀ u, fr (aR ro) w u → cR (ro + 1) (psI T C n S i) u → s_Ex (d + 4) 0 mX6_pass 14 [some (.ref ro), some (.ref o), some (.ref l), some (.int (nI i)), none] [] u (s_I Q) X := by
    refine n_down ?_ ?_
    · intro u hu hr
      have e62 := hr 58 (by omega)
      rw [pm_58, psI_o _ (by omega) (by omega)] at e62
      apply xX6_pass_14
      unfold vX6_pass_14
      try simp (disch := omega) only [s_Ii, s_Jj, s_Vn, forall_eq, L_m1, nI_add, nI_clamp, nI_leI, nI_ltI, nI_eq, vp_nI, pk_mul, pk_sub, Nat.zero_add, Nat.add_zero, wr_2, Classical.not_not, true_and, and_true, ne_eq, false_implies, true_implies, implies_true, not_true_eq_false, not_false_eq_true, ia_0, ia_1, za_1, ia_2, za_2, ia_3, za_3, ia_4, za_4, ia_5, za_5, ia_6, za_6, ia_7, za_7, ia_8, za_8, ia_9, za_9, ia_10, za_10, ia_11, za_11, ia_12, za_12, ia_13, za_13, ia_14, za_14, ia_15, za_15, ib_0, ib_1, zb_1, ic_0, ic_1, ic_2, ic_3, zc_1, zc_2, zc_3, id_0, id_1, id_2, id_3, zd_1, zd_2, zd_3, L_0, L_1, L_2, L_3, L_4, L_5, L_6, L_7, L_8, L_9, L_10, L_11, L_12, L_13, L_14, L_15, L_16, L_17, L_18, L_19, L_20, L_24, L_27, L_30, L_31, L_32, L_35, L_36, L_40, L_41, L_43, L_44, L_45, L_46, L_47, L_48, L_50, L_54, L_57, L_58, L_59, L_60, L_61, L_62, L_63, L_91, L_93, L_96, L_97, L_98, L_99, L_100, L_103, L_122, L_145, L_150, L_200, L_255, L_600, L_999, L_1000, L_2000, L_9999, L_10000, L_32767, L_12345, (hE.f hu (aR_lo ho)).nd, e62]
      refine ⟨fun _ => ⟨by omega, by omega, ?_⟩, fun z => absurd (Nat.le_refl _) z⟩
      have k1 := hr.put (k := 58) (v := S 62 + 1) (by omega) pm_58
      refine K_takeLight ((hE.f hu (aR_lo ho)).f (fr.wr (aR_s ro _)) (aR_lo ho)) ho k1 (by rw [up_s]; omega) (fun u2 hu2 hr2 => ?_)
      rw [up_s] at hr2
      try simp (disch := omega) only [s_Ii, s_Jj, s_Vn, forall_eq, L_m1, nI_add, nI_clamp, nI_leI, nI_ltI, nI_eq, vp_nI, pk_mul, pk_sub, Nat.zero_add, Nat.add_zero, wr_2, Classical.not_not, true_and, and_true, ne_eq, false_implies, true_implies, implies_true, not_true_eq_false, not_false_eq_true, ia_0, ia_1, za_1, ia_2, za_2, ia_3, za_3, ia_4, za_4, ia_5, za_5, ia_6, za_6, ia_7, za_7, ia_8, za_8, ia_9, za_9, ia_10, za_10, ia_11, za_11, ia_12, za_12, ia_13, za_13, ia_14, za_14, ia_15, za_15, ib_0, ib_1, zb_1, ic_0, ic_1, ic_2, ic_3, zc_1, zc_2, zc_3, id_0, id_1, id_2, id_3, zd_1, zd_2, zd_3, L_0, L_1, L_2, L_3, L_4, L_5, L_6, L_7, L_8, L_9, L_10, L_11, L_12, L_13, L_14, L_15, L_16, L_17, L_18, L_19, L_20, L_24, L_27, L_30, L_31, L_32, L_35, L_36, L_40, L_41, L_43, L_44, L_45, L_46, L_47, L_48, L_50, L_54, L_57, L_58, L_59, L_60, L_61, L_62, L_63, L_91, L_93, L_96, L_97, L_98, L_99, L_100, L_103, L_122, L_145, L_150, L_200, L_255, L_600, L_999, L_1000, L_2000, L_9999, L_10000, L_32767, L_12345]
      exact h1 hz u2 ((hu.put (aR_s _ _)).trans hu2) hr2
    · intro i hi ih u hu hr
      have b1 := hB.1 i hi
      have ei : psI T C n S i i = S i := psI_o _ (by omega) (by omega)
      have e10 : psI T C n S i (10 + i) = S (10 + i) := psI_o _ (by omega) (by omega)
      have e40 : psI T C n S i (40 + i) = S (40 + i) := psI_o _ (by omega) (by omega)
      have e20 : psI T C n S i (20 + i) = S (20 + i) := psI_o _ (by omega) (by omega)
      have e62 : psI T C n S i 62 = S 62 := psI_o _ (by omega) (by omega)
      have hEu := hE.f hu (aR_lo ho)
      apply xX6_pass_14
      unfold vX6_pass_14
      try simp (disch := omega) only [s_Ii, s_Jj, s_Vn, forall_eq, L_m1, nI_add, nI_clamp, nI_leI, nI_ltI, nI_eq, vp_nI, pk_mul, pk_sub, Nat.zero_add, Nat.add_zero, wr_2, Classical.not_not, true_and, and_true, ne_eq, false_implies, true_implies, implies_true, not_true_eq_false, not_false_eq_true, ia_0, ia_1, za_1, ia_2, za_2, ia_3, za_3, ia_4, za_4, ia_5, za_5, ia_6, za_6, ia_7, za_7, ia_8, za_8, ia_9, za_9, ia_10, za_10, ia_11, za_11, ia_12, za_12, ia_13, za_13, ia_14, za_14, ia_15, za_15, ib_0, ib_1, zb_1, ic_0, ic_1, ic_2, ic_3, zc_1, zc_2, zc_3, id_0, id_1, id_2, id_3, zd_1, zd_2, zd_3, L_0, L_1, L_2, L_3, L_4, L_5, L_6, L_7, L_8, L_9, L_10, L_11, L_12, L_13, L_14, L_15, L_16, L_17, L_18, L_19, L_20, L_24, L_27, L_30, L_31, L_32, L_35, L_36, L_40, L_41, L_43, L_44, L_45, L_46, L_47, L_48, L_50, L_54, L_57, L_58, L_59, L_60, L_61, L_62, L_63, L_91, L_93, L_96, L_97, L_98, L_99, L_100, L_103, L_122, L_145, L_150, L_200, L_255, L_600, L_999, L_1000, L_2000, L_9999, L_10000, L_32767, L_12345, hEu.nd]
      refine ⟨fun z => absurd z (by omega), fun _ => K_owed ho hr (by omega) ?_⟩
      rw [ei]
      try simp (disch := omega) only [s_Ii, s_Jj, s_Vn, forall_eq, L_m1, nI_add, nI_clamp, nI_leI, nI_ltI, nI_eq, vp_nI, pk_mul, pk_sub, Nat.zero_add, Nat.add_zero, wr_2, Classical.not_not, true_and, and_true, ne_eq, false_implies, true_implies, implies_true, not_true_eq_false, not_false_eq_true, ia_0, ia_1, za_1, ia_2, za_2, ia_3, za_3, ia_4, za_4, ia_5, za_5, ia_6, za_6, ia_7, za_7, ia_8, za_8, ia_9, za_9, ia_10, za_10, ia_11, za_11, ia_12, za_12, ia_13, za_13, ia_14, za_14, ia_15, za_15, ib_0, ib_1, zb_1, ic_0, ic_1, ic_2, ic_3, zc_1, zc_2, zc_3, id_0, id_1, id_2, id_3, zd_1, zd_2, zd_3, L_0, L_1, L_2, L_3, L_4, L_5, L_6, L_7, L_8, L_9, L_10, L_11, L_12, L_13, L_14, L_15, L_16, L_17, L_18, L_19, L_20, L_24, L_27, L_30, L_31, L_32, L_35, L_36, L_40, L_41, L_43, L_44, L_45, L_46, L_47, L_48, L_50, L_54, L_57, L_58, L_59, L_60, L_61, L_62, L_63, L_91, L_93, L_96, L_97, L_98, L_99, L_100, L_103, L_122, L_145, L_150, L_200, L_255, L_600, L_999, L_1000, L_2000, L_9999, L_10000, L_32767, L_12345]
      refine ⟨fun z2 => ⟨by omega, ?_⟩, fun z2 => ?_⟩
      · have z3 : S i = 0 := by omega
        refine ih _ (hu.put (aR_s _ _)) ?_
        have f1 : ow T C n S i = psI T C n S i i := by rw [ei, ow_0.mpr z3, z3]
        have f2 : lt1 T S i = psI T C n S i (20 + i) := by rw [e20]; simp [lt1, z3]
        unfold psI
        rw [f1, up_id, f2, up_id]
        exact hr.put (by omega) (pm_30 (by omega))
      · refine K_owed ho hr (by omega) ?_
        rw [ei]
        refine K_paidToday ho hr (by omega) ?_
        rw [e40]
        refine K_today ho hr ?_
        rw [e62]
        refine K_growthOf hEu ho hr hi (by rw [e10]; omega) (by omega) (by omega) (fun u3 hu3 => ?_)
        rw [gw_c e10]
        have hr3 : cR (ro + 1) (psI T C n S i) u3 := hr.eq (fun j => hu3.2 _ _ (by rcases ho with rfl | rfl <;> rfl))
        have hu3' : fr (aR ro) w u3 := hu.trans (hu3.mono (aL_aR ro))
        have gl : gw T C n S i (S i) (S (40 + i)) (S 62) ≤ 99 := gw_le
        refine K_owed ho hr3 (by omega) ?_
        rw [ei]
        try simp (disch := omega) only [s_Ii, s_Jj, s_Vn, forall_eq, L_m1, nI_add, nI_clamp, nI_leI, nI_ltI, nI_eq, vp_nI, pk_mul, pk_sub, Nat.zero_add, Nat.add_zero, wr_2, Classical.not_not, true_and, and_true, ne_eq, false_implies, true_implies, implies_true, not_true_eq_false, not_false_eq_true, ia_0, ia_1, za_1, ia_2, za_2, ia_3, za_3, ia_4, za_4, ia_5, za_5, ia_6, za_6, ia_7, za_7, ia_8, za_8, ia_9, za_9, ia_10, za_10, ia_11, za_11, ia_12, za_12, ia_13, za_13, ia_14, za_14, ia_15, za_15, ib_0, ib_1, zb_1, ic_0, ic_1, ic_2, ic_3, zc_1, zc_2, zc_3, id_0, id_1, id_2, id_3, zd_1, zd_2, zd_3, L_0, L_1, L_2, L_3, L_4, L_5, L_6, L_7, L_8, L_9, L_10, L_11, L_12, L_13, L_14, L_15, L_16, L_17, L_18, L_19, L_20, L_24, L_27, L_30, L_31, L_32, L_35, L_36, L_40, L_41, L_43, L_44, L_45, L_46, L_47, L_48, L_50, L_54, L_57, L_58, L_59, L_60, L_61, L_62, L_63, L_91, L_93, L_96, L_97, L_98, L_99, L_100, L_103, L_122, L_145, L_150, L_200, L_255, L_600, L_999, L_1000, L_2000, L_9999, L_10000, L_32767, L_12345]
        refine k_minN (by omega) (by omega) ?_
        have eo : min 9999 (S i + gw T C n S i (S i) (S (40 + i)) (S 62)) = ow T C n S i := rfl
        rw [eo]
        have k1 := hr3.put (k := i) (v := ow T C n S i) (by omega) (pm_0 (by omega))
        try simp (disch := omega) only [s_Ii, s_Jj, s_Vn, forall_eq, L_m1, nI_add, nI_clamp, nI_leI, nI_ltI, nI_eq, vp_nI, pk_mul, pk_sub, Nat.zero_add, Nat.add_zero, wr_2, Classical.not_not, true_and, and_true, ne_eq, false_implies, true_implies, implies_true, not_true_eq_false, not_false_eq_true, ia_0, ia_1, za_1, ia_2, za_2, ia_3, za_3, ia_4, za_4, ia_5, za_5, ia_6, za_6, ia_7, za_7, ia_8, za_8, ia_9, za_9, ia_10, za_10, ia_11, za_11, ia_12, za_12, ia_13, za_13, ia_14, za_14, ia_15, za_15, ib_0, ib_1, zb_1, ic_0, ic_1, ic_2, ic_3, zc_1, zc_2, zc_3, id_0, id_1, id_2, id_3, zd_1, zd_2, zd_3, L_0, L_1, L_2, L_3, L_4, L_5, L_6, L_7, L_8, L_9, L_10, L_11, L_12, L_13, L_14, L_15, L_16, L_17, L_18, L_19, L_20, L_24, L_27, L_30, L_31, L_32, L_35, L_36, L_40, L_41, L_43, L_44, L_45, L_46, L_47, L_48, L_50, L_54, L_57, L_58, L_59, L_60, L_61, L_62, L_63, L_91, L_93, L_96, L_97, L_98, L_99, L_100, L_103, L_122, L_145, L_150, L_200, L_255, L_600, L_999, L_1000, L_2000, L_9999, L_10000, L_32767, L_12345]
        refine ⟨by omega, K_today ho k1 ?_⟩
        rw [up_n (by omega), e62]
        have hE4 : KE o l T β C n (q_wI u3 (ro + 1) i (nI (ow T C n S i))) := hE.f (hu3'.put (aR_s ro i)) (aR_lo ho)
        have ht := tb_tm hE.2.2.1 hi
        try simp (disch := omega) only [s_Ii, s_Jj, s_Vn, forall_eq, L_m1, nI_add, nI_clamp, nI_leI, nI_ltI, nI_eq, vp_nI, pk_mul, pk_sub, Nat.zero_add, Nat.add_zero, wr_2, Classical.not_not, true_and, and_true, ne_eq, false_implies, true_implies, implies_true, not_true_eq_false, not_false_eq_true, ia_0, ia_1, za_1, ia_2, za_2, ia_3, za_3, ia_4, za_4, ia_5, za_5, ia_6, za_6, ia_7, za_7, ia_8, za_8, ia_9, za_9, ia_10, za_10, ia_11, za_11, ia_12, za_12, ia_13, za_13, ia_14, za_14, ia_15, za_15, ib_0, ib_1, zb_1, ic_0, ic_1, ic_2, ic_3, zc_1, zc_2, zc_3, id_0, id_1, id_2, id_3, zd_1, zd_2, zd_3, L_0, L_1, L_2, L_3, L_4, L_5, L_6, L_7, L_8, L_9, L_10, L_11, L_12, L_13, L_14, L_15, L_16, L_17, L_18, L_19, L_20, L_24, L_27, L_30, L_31, L_32, L_35, L_36, L_40, L_41, L_43, L_44, L_45, L_46, L_47, L_48, L_50, L_54, L_57, L_58, L_59, L_60, L_61, L_62, L_63, L_91, L_93, L_96, L_97, L_98, L_99, L_100, L_103, L_122, L_145, L_150, L_200, L_255, L_600, L_999, L_1000, L_2000, L_9999, L_10000, L_32767, L_12345, hE4.term hi]
        refine ⟨by omega, fun z4 => ⟨by omega, ?_⟩, fun z4 => ⟨by omega, by omega, ?_⟩⟩
        · refine ih _ ((hu3'.put (aR_s _ _)).put (aR_s _ _)) ?_
          have f2 : lt1 T S i = up (psI T C n S i) i (ow T C n S i) (20 + i) := by
            rw [up_n (by omega), e20]
            unfold lt1
            rw [if_neg (fun q => z4 q.2.symm)]
          unfold psI
          rw [f2, up_id]
          exact k1.put (by omega) (pm_30 (by omega))
        · refine ih _ (((hu3'.put (aR_s _ _)).put (aR_s _ _)).put (aR_s _ _)) ?_
          have f2 : lt1 T S i = 1 := by simp [lt1, show S i ≠ 0 by omega, z4]
          unfold psI
          rw [f2]
          exact (k1.put (k := 40 + i) (v := 1) (by omega) (pm_40 (by omega))).put (by omega) (pm_30 (by omega))
  exact loop 0 (Nat.zero_le _) w (fr.refl _ _) hS
