/-! what would come: soon, left, delay, decades -/
def nx (T : Tb) (C : Nat → Nat) (n : Nat) (S : Nat → Nat) : Nat → Nat := if S 62 = 200 then S else psS T C n S
def pb (T : Tb) (β S : Nat → Nat) : Nat → Nat := pa T β S (T 7 1)
def rw2 (T : Tb) (S : Nat → Nat) : Prop := rb T S ∧ S 62 ≤ 200
theorem rw_pb {T : Tb} {β S : Nat → Nat} (ht : tb T) (hβ : ordered T β) (h : rw2 T S) : rw2 T (pb T β S) := ⟨rb_pa ht hβ h.1 _ (Nat.le_refl _), by unfold pb; rw [pa_62 ht hβ _ (Nat.le_refl _)]; exact h.2⟩
theorem rw_nx {T : Tb} {C : Nat → Nat} {n : Nat} {S : Nat → Nat} (ht : tb T) (h : rw2 T S) : rw2 T (nx T C n S) := by
  unfold nx
  split
  · exact h
  · have := h.2
    exact ⟨rb_ps ht h.1 (by omega), by rw [ps_62]; omega⟩
theorem pb_62 {T : Tb} {β S : Nat → Nat} (ht : tb T) (hβ : ordered T β) : pb T β S 62 = S 62 := pa_62 ht hβ _ (Nat.le_refl _)
/-- class: foresight's own fields, trial's row, the law's scratch -/
def aF (i j : Nat) : Bool := i == 67 || aR 68 i j
theorem aF_lo (i j : Nat) (h : i < 38 ∨ i = 40 ∨ i = 41) : aF i j = false := by
  unfold aF
  rw [aR_lo (Or.inr rfl) i j h]
  simp
  omega
theorem aR_aF (i j : Nat) (h : aR 68 i j = true) : aF i j = true := by simp [aF, h]
theorem K_copy {d : Nat} {S : Nat → Nat} {w : q_Sm} {Q : q_Sm → Prop} {X : s_Xo} (hS : cR 57 S w) (h : ∀ u, fr (aR 68) w u → cR 69 S u → Q u) : s_EvV (d + 1) 0 mX6_copy w [.ref 68, .ref 56] Q X := by
  apply eX6_copy
  unfold vX6_copy_0
  refine ⟨q_id_of rfl, q_id_of rfl, ⟨q_id_of rfl, q_id_of rfl⟩, by decide, by decide, ?_⟩
  rintro _ rfl
  refine ⟨rfl, h _ ⟨rfl, fun i j q => ?_⟩ (fun k hk => ?_)⟩
  · have : i ≠ 69 := fun e => by subst e; cases q
    show (if i = 68 + 1 then _ else w.1 i j) = w.1 i j
    rw [if_neg this]
  · show (if 69 = 68 + 1 then (if 0 ≤ k ∧ k < 0 + 59 then w.1 57 (0 + (k - 0)) else w.1 69 k) else w.1 69 k) = _
    rw [if_pos rfl, if_pos (by omega), Nat.zero_add, Nat.sub_zero]
    exact hS k hk
def snF (T : Tb) (β C : Nat → Nat) (n : Nat) : Nat → (Nat → Nat) → Option Nat
  | 0, _ => none
  | k + 1, R => if sm (pb T β R) (T 7 1) = 0 then some (R 62) else snF T β C n k (nx T C n (pb T β R))
theorem snF_s (T : Tb) (β C : Nat → Nat) (n k : Nat) (R : Nat → Nat) : snF T β C n (k + 1) R = if sm (pb T β R) (T 7 1) = 0 then some (R 62) else snF T β C n k (nx T C n (pb T β R)) := rfl
theorem sm_b {T : Tb} {S : Nat → Nat} (ht : tb T) (h : rb T S) : sm S (T 7 1) ≤ 99990 := by
  have h1 := sm_le (f := S) (b := 9999) (T 7 1) (fun k hk => (h.1 k hk).1)
  have h2 := tb_nd ht
  have : T 7 1 * 9999 ≤ 10 * 9999 := Nat.mul_le_mul_right _ h2
  omega
theorem K_pass2 {d o l n : Nat} {T : Tb} {β C S : Nat → Nat} {w : q_Sm} {Q : Int32 → q_Sm → Prop} {X : s_Xo} (hE : KE o l T β C n w) (hS : cR 69 S w) (hB : rw2 T S)
    (h : ∀ v u, fr (aR 68) w u → cR 69 (nx T C n S) u → Q v u) : s_EvI (d + 4) 0 mX6_pass w [.ref 68, .ref o, .ref l] Q X := by
  refine K_pass hE (Or.inr rfl) hS hB.1 hB.2 (fun z u hu hr => h _ u hu ?_) (fun z => h _ w (fr.refl _ _) ?_)
  · unfold nx; rw [if_neg z]; exact hr
  · unfold nx; rw [if_pos z]; exact hS
theorem K_duskOf {d o l n : Nat} {T : Tb} {β C S : Nat → Nat} {w : q_Sm} {Q : Int32 → q_Sm → Prop} {X : s_Xo} (hE : KE o l T β C n w) (hS : cR 57 S w) (hB : rw2 T S)
    (h : ∀ u, fr aF w u → Q (oI (snF T β C n 61 S)) u) : s_EvI (d + 5) 0 mX4_duskOfNothingOwed w [.ref 67, .ref 56, .ref o, .ref l] Q X := by
  have ht := hE.2.2.1
  have hβ := hE.ord
  have loop : ∀ i, i ≤ 61 → ∀ u R, fr aF w u → cR 69 R u → rw2 T R → snF T β C n (61 - i) R = snF T β C n 61 S → s_Ex (d + 5) 0 mX4_duskOfNothingOwed 11 [some (.ref 67), none, some (.ref o), some (.ref l), some (.int (nI i))] [] u (s_I Q) X := by
    refine n_down ?_ ?_
    · intro u R hu hr hR e
      apply xX4_duskOfNothingOwed_11
      unfold vX4_duskOfNothingOwed_11
      try simp (disch := omega) only [s_Ii, s_Jj, s_Vn, forall_eq, L_m1, nI_add, nI_clamp, nI_leI, nI_ltI, nI_eq, vp_nI, pk_mul, pk_sub, Nat.zero_add, Nat.add_zero, wr_2, Classical.not_not, true_and, and_true, ne_eq, false_implies, true_implies, implies_true, not_true_eq_false, not_false_eq_true, ia_0, ia_1, za_1, ia_2, za_2, ia_3, za_3, ia_4, za_4, ia_5, za_5, ia_6, za_6, ia_7, za_7, ia_8, za_8, ia_9, za_9, ia_10, za_10, ia_11, za_11, ia_12, za_12, ia_13, za_13, ia_14, za_14, ia_15, za_15, ib_0, ib_1, zb_1, ic_0, ic_1, ic_2, ic_3, zc_1, zc_2, zc_3, id_0, id_1, id_2, id_3, zd_1, zd_2, zd_3, L_0, L_1, L_2, L_3, L_4, L_5, L_6, L_7, L_8, L_9, L_10, L_11, L_12, L_13, L_14, L_15, L_16, L_17, L_18, L_19, L_20, L_24, L_27, L_30, L_31, L_32, L_35, L_36, L_40, L_41, L_43, L_44, L_45, L_46, L_47, L_48, L_50, L_54, L_57, L_58, L_59, L_60, L_61, L_62, L_63, L_91, L_93, L_96, L_97, L_98, L_99, L_100, L_103, L_122, L_145, L_150, L_200, L_255, L_600, L_999, L_1000, L_2000, L_9999, L_10000, L_32767, L_12345, oI_s, oI_n, L_mn, if_true, if_false, ite_true, ite_false, Bool.false_eq_true, Nat.reduceEqDiff, Nat.reduceLeDiff, Nat.reduceLT, Nat.reduceAdd, Nat.reduceSub, Nat.reduceMul, Nat.le_refl, Nat.lt_irrefl, Nat.not_lt_zero]
      have := h u hu
      rw [← e] at this
      exact this
    · intro i hi ih u R hu hr hR e
      apply xX4_duskOfNothingOwed_11
      unfold vX4_duskOfNothingOwed_11
      try simp (disch := omega) only [s_Ii, s_Jj, s_Vn, forall_eq, L_m1, nI_add, nI_clamp, nI_leI, nI_ltI, nI_eq, vp_nI, pk_mul, pk_sub, Nat.zero_add, Nat.add_zero, wr_2, Classical.not_not, true_and, and_true, ne_eq, false_implies, true_implies, implies_true, not_true_eq_false, not_false_eq_true, ia_0, ia_1, za_1, ia_2, za_2, ia_3, za_3, ia_4, za_4, ia_5, za_5, ia_6, za_6, ia_7, za_7, ia_8, za_8, ia_9, za_9, ia_10, za_10, ia_11, za_11, ia_12, za_12, ia_13, za_13, ia_14, za_14, ia_15, za_15, ib_0, ib_1, zb_1, ic_0, ic_1, ic_2, ic_3, zc_1, zc_2, zc_3, id_0, id_1, id_2, id_3, zd_1, zd_2, zd_3, L_0, L_1, L_2, L_3, L_4, L_5, L_6, L_7, L_8, L_9, L_10, L_11, L_12, L_13, L_14, L_15, L_16, L_17, L_18, L_19, L_20, L_24, L_27, L_30, L_31, L_32, L_35, L_36, L_40, L_41, L_43, L_44, L_45, L_46, L_47, L_48, L_50, L_54, L_57, L_58, L_59, L_60, L_61, L_62, L_63, L_91, L_93, L_96, L_97, L_98, L_99, L_100, L_103, L_122, L_145, L_150, L_200, L_255, L_600, L_999, L_1000, L_2000, L_9999, L_10000, L_32767, L_12345, oI_s, oI_n, L_mn, if_true, if_false, ite_true, ite_false, Bool.false_eq_true, Nat.reduceEqDiff, Nat.reduceLeDiff, Nat.reduceLT, Nat.reduceAdd, Nat.reduceSub, Nat.reduceMul, Nat.le_refl, Nat.lt_irrefl, Nat.not_lt_zero]
      refine ⟨fun z => absurd z (by omega), fun _ => K_payByTerm (hE.f hu aF_lo) (Or.inr rfl) hr hR.1 (fun u2 hu2 hr2 => ?_)⟩
      have hu2' := hu.trans (hu2.mono aR_aF)
      have hR2 := rw_pb ht hβ hR
      have hs := sm_b ht hR2.1
      obtain ⟨f, hf⟩ : ∃ f, 61 - i = f + 1 := ⟨60 - i, by omega⟩
      rw [hf, snF_s T β C n f R] at e
      refine K_owedInAll (hE.f hu2' aF_lo) (Or.inr rfl) hr2 ?_
      have e0 : sm (pa T β R (T 7 1)) (T 7 1) = sm (pb T β R) (T 7 1) := rfl
      rw [e0]
      try simp (disch := omega) only [s_Ii, s_Jj, s_Vn, forall_eq, L_m1, nI_add, nI_clamp, nI_leI, nI_ltI, nI_eq, vp_nI, pk_mul, pk_sub, Nat.zero_add, Nat.add_zero, wr_2, Classical.not_not, true_and, and_true, ne_eq, false_implies, true_implies, implies_true, not_true_eq_false, not_false_eq_true, ia_0, ia_1, za_1, ia_2, za_2, ia_3, za_3, ia_4, za_4, ia_5, za_5, ia_6, za_6, ia_7, za_7, ia_8, za_8, ia_9, za_9, ia_10, za_10, ia_11, za_11, ia_12, za_12, ia_13, za_13, ia_14, za_14, ia_15, za_15, ib_0, ib_1, zb_1, ic_0, ic_1, ic_2, ic_3, zc_1, zc_2, zc_3, id_0, id_1, id_2, id_3, zd_1, zd_2, zd_3, L_0, L_1, L_2, L_3, L_4, L_5, L_6, L_7, L_8, L_9, L_10, L_11, L_12, L_13, L_14, L_15, L_16, L_17, L_18, L_19, L_20, L_24, L_27, L_30, L_31, L_32, L_35, L_36, L_40, L_41, L_43, L_44, L_45, L_46, L_47, L_48, L_50, L_54, L_57, L_58, L_59, L_60, L_61, L_62, L_63, L_91, L_93, L_96, L_97, L_98, L_99, L_100, L_103, L_122, L_145, L_150, L_200, L_255, L_600, L_999, L_1000, L_2000, L_9999, L_10000, L_32767, L_12345, oI_s, oI_n, L_mn, if_true, if_false, ite_true, ite_false, Bool.false_eq_true, Nat.reduceEqDiff, Nat.reduceLeDiff, Nat.reduceLT, Nat.reduceAdd, Nat.reduceSub, Nat.reduceMul, Nat.le_refl, Nat.lt_irrefl, Nat.not_lt_zero]
      refine ⟨fun z => ?_, fun z => ?_⟩
      · rw [if_neg z] at e
        refine K_pass2 (hE.f hu2' aF_lo) hr2 hR2 (fun v u3 hu3 hr3 => ?_)
        exact ih u3 _ (hu2'.trans (hu3.mono aR_aF)) hr3 (rw_nx ht hR2) (by rw [show 61 - (i + 1) = f by omega]; exact e)
      · rw [if_pos z] at e
        refine K_today (Or.inr rfl) hr2 ?_
        rw [pa_62 ht hβ _ (Nat.le_refl _)]
        try simp (disch := omega) only [s_Ii, s_Jj, s_Vn, forall_eq, L_m1, nI_add, nI_clamp, nI_leI, nI_ltI, nI_eq, vp_nI, pk_mul, pk_sub, Nat.zero_add, Nat.add_zero, wr_2, Classical.not_not, true_and, and_true, ne_eq, false_implies, true_implies, implies_true, not_true_eq_false, not_false_eq_true, ia_0, ia_1, za_1, ia_2, za_2, ia_3, za_3, ia_4, za_4, ia_5, za_5, ia_6, za_6, ia_7, za_7, ia_8, za_8, ia_9, za_9, ia_10, za_10, ia_11, za_11, ia_12, za_12, ia_13, za_13, ia_14, za_14, ia_15, za_15, ib_0, ib_1, zb_1, ic_0, ic_1, ic_2, ic_3, zc_1, zc_2, zc_3, id_0, id_1, id_2, id_3, zd_1, zd_2, zd_3, L_0, L_1, L_2, L_3, L_4, L_5, L_6, L_7, L_8, L_9, L_10, L_11, L_12, L_13, L_14, L_15, L_16, L_17, L_18, L_19, L_20, L_24, L_27, L_30, L_31, L_32, L_35, L_36, L_40, L_41, L_43, L_44, L_45, L_46, L_47, L_48, L_50, L_54, L_57, L_58, L_59, L_60, L_61, L_62, L_63, L_91, L_93, L_96, L_97, L_98, L_99, L_100, L_103, L_122, L_145, L_150, L_200, L_255, L_600, L_999, L_1000, L_2000, L_9999, L_10000, L_32767, L_12345, oI_s, oI_n, L_mn, if_true, if_false, ite_true, ite_false, Bool.false_eq_true, Nat.reduceEqDiff, Nat.reduceLeDiff, Nat.reduceLT, Nat.reduceAdd, Nat.reduceSub, Nat.reduceMul, Nat.le_refl, Nat.lt_irrefl, Nat.not_lt_zero]
        have := h u2 hu2'
        rw [← e] at this
        exact this
  apply eX4_duskOfNothingOwed
  unfold vX4_duskOfNothingOwed_0
  exact K_copy hS (fun u hu hr => loop 0 (by omega) u S (hu.mono aR_aF) hr hB rfl)
/-- light that has been paid once by day pays no more -/
theorem py_le {T : Tb} {S : Nat → Nat} {d m k : Nat} (hd : d < 10) (hc : cl T d < 4) (hk : k < 10 ∨ (50 ≤ k ∧ k < 54)) : pyS T S d m k ≤ S k := by
  by_cases h1 : k = d
  · subst h1; rw [py_d hd]; omega
  · by_cases h2 : k = 50 + cl T d
    · subst h2; rw [py_l hd hc]; omega
    · rw [py_o h2 h1 (by omega) (by omega) (by omega)]; omega
theorem pa_z {T : Tb} {β S : Nat → Nat} (ht : tb T) (hβ : ordered T β) {i : Nat} : ∀ j, i < j → j ≤ T 7 1 → pam T (pa T β S j) (β i) = 0 := by
  have hb := tb_nd ht
  intro j
  induction j with
  | zero => intro h _; omega
  | succ j ih =>
    intro h hj
    have hdj := hβ.1 j (by omega)
    have hcj := tb_cl ht hdj
    have hdi := hβ.1 i (by omega)
    have hci := tb_cl ht hdi
    by_cases q : i = j
    · subst q
      show min (pyS T (pa T β S i) (β i) (pam T (pa T β S i) (β i)) (β i)) (pyS T (pa T β S i) (β i) (pam T (pa T β S i) (β i)) (50 + cl T (β i))) = 0
      rw [py_d (by omega), py_l (by omega) hcj]
      unfold pam
      omega
    · have h1 := ih (by omega) (by omega)
      have h2 := py_le (S := pa T β S j) (m := pam T (pa T β S j) (β j)) (k := β i) (by omega) hcj (Or.inl (by omega))
      have h3 := py_le (S := pa T β S j) (m := pam T (pa T β S j) (β j)) (k := 50 + cl T (β i)) (show β j < 10 by omega) hcj (Or.inr (by omega))
      unfold pam at h1
      show min (pyS T (pa T β S j) (β j) (pam T (pa T β S j) (β j)) (β i)) (pyS T (pa T β S j) (β j) (pam T (pa T β S j) (β j)) (50 + cl T (β i))) = 0
      omega
theorem pa_id {T : Tb} {β R : Nat → Nat} (h : ∀ i, i < T 7 1 → pam T R (β i) = 0) : ∀ i, i ≤ T 7 1 → pa T β R i = R := by
  intro i
  induction i with
  | zero => intro _; rfl
  | succ i ih =>
    intro hi
    show pyS T (pa T β R i) (β i) (pam T (pa T β R i) (β i)) = R
    rw [ih (by omega), h i (by omega), pyS_0]
theorem pb_pb {T : Tb} {β S : Nat → Nat} (ht : tb T) (hβ : ordered T β) : pb T β (pb T β S) = pb T β S := pa_id (fun i hi => pa_z ht hβ _ hi (Nat.le_refl _)) _ (Nat.le_refl _)
theorem r_goes2 {d n : Nat} {T : Tb} {C : Nat → Nat} {S : Nat → Nat} {w : q_Sm} {Q : Int32 → q_Sm → Prop} {X : s_Xo} (hE : RE T C n w) (hS : rR 105 S w) (hB : rw2 T S)
    (h : ∀ v u, fr aS w u → rR 105 (nx T C n S) u → Q v u) : s_EvI (d + 6) 0 mX12_goesNext w [.ref 79] Q X := by
  refine r_goesNext hE hS hB.1 (fun z u hu hr => h _ u hu ?_) (fun z => h _ w (fr.refl _ _) ?_)
  · unfold nx; rw [if_neg z]; exact hr
  · unfold nx; rw [if_pos z]; exact hS
theorem r_soonL {d n : Nat} {T : Tb} {β C S : Nat → Nat} {w : q_Sm} {Q : Int32 → q_Sm → Prop} {X : s_Xo} (hE : RE T C n w) (hβ : ordered T β) (h104 : w.1 104 62 = nI (S 62)) (hS : rR 105 S w) (hB : rw2 T S)
    (h : ∀ u, fr aS w u → Q (oI (snF T β C n 61 S)) u) : s_Ex (d + 7) 0 mX12_soon 11 [some (.ref 79), some (.int (nI 0))] [] w (s_I Q) X := by
  have ht := hE.1
  have loop : ∀ i, i ≤ 61 → ∀ u R, fr aS w u → rR 105 R u → rw2 T R → (R 62 = S 62 + i ∨ (R 62 = 200 ∧ pb T β R = R ∧ ¬ sm R (T 7 1) = 0)) → snF T β C n (61 - i) R = snF T β C n 61 S → s_Ex (d + 7) 0 mX12_soon 11 [some (.ref 79), some (.int (nI i))] [] u (s_I Q) X := by
    refine n_down ?_ ?_
    · intro u R hu hr hR h2 e
      apply xX12_soon_11
      unfold vX12_soon_11
      try simp (disch := omega) only [s_Ii, s_Jj, s_Vn, forall_eq, L_m1, nI_add, nI_clamp, nI_leI, nI_ltI, nI_eq, vp_nI, pk_mul, pk_sub, Nat.zero_add, Nat.add_zero, wr_2, Classical.not_not, true_and, and_true, ne_eq, false_implies, true_implies, implies_true, not_true_eq_false, not_false_eq_true, ia_0, ia_1, za_1, ia_2, za_2, ia_3, za_3, ia_4, za_4, ia_5, za_5, ia_6, za_6, ia_7, za_7, ia_8, za_8, ia_9, za_9, ia_10, za_10, ia_11, za_11, ia_12, za_12, ia_13, za_13, ia_14, za_14, ia_15, za_15, ib_0, ib_1, zb_1, ic_0, ic_1, ic_2, ic_3, zc_1, zc_2, zc_3, id_0, id_1, id_2, id_3, zd_1, zd_2, zd_3, L_0, L_1, L_2, L_3, L_4, L_5, L_6, L_7, L_8, L_9, L_10, L_11, L_12, L_13, L_14, L_15, L_16, L_17, L_18, L_19, L_20, L_24, L_27, L_30, L_31, L_32, L_35, L_36, L_40, L_41, L_43, L_44, L_45, L_46, L_47, L_48, L_50, L_54, L_57, L_58, L_59, L_60, L_61, L_62, L_63, L_91, L_93, L_96, L_97, L_98, L_99, L_100, L_103, L_122, L_145, L_150, L_200, L_255, L_600, L_999, L_1000, L_2000, L_9999, L_10000, L_32767, L_12345, oI_s, oI_n, L_mn, if_true, if_false, ite_true, ite_false, Bool.false_eq_true, Nat.reduceEqDiff, Nat.reduceLeDiff, Nat.reduceLT, Nat.reduceAdd, Nat.reduceSub, Nat.reduceMul, Nat.le_refl, Nat.lt_irrefl, Nat.not_lt_zero]
      have := h u hu
      rw [← e] at this
      exact this
    · intro i hi ih u R hu hr hR h2 e
      apply xX12_soon_11
      unfold vX12_soon_11
      try simp (disch := omega) only [s_Ii, s_Jj, s_Vn, forall_eq, L_m1, nI_add, nI_clamp, nI_leI, nI_ltI, nI_eq, vp_nI, pk_mul, pk_sub, Nat.zero_add, Nat.add_zero, wr_2, Classical.not_not, true_and, and_true, ne_eq, false_implies, true_implies, implies_true, not_true_eq_false, not_false_eq_true, ia_0, ia_1, za_1, ia_2, za_2, ia_3, za_3, ia_4, za_4, ia_5, za_5, ia_6, za_6, ia_7, za_7, ia_8, za_8, ia_9, za_9, ia_10, za_10, ia_11, za_11, ia_12, za_12, ia_13, za_13, ia_14, za_14, ia_15, za_15, ib_0, ib_1, zb_1, ic_0, ic_1, ic_2, ic_3, zc_1, zc_2, zc_3, id_0, id_1, id_2, id_3, zd_1, zd_2, zd_3, L_0, L_1, L_2, L_3, L_4, L_5, L_6, L_7, L_8, L_9, L_10, L_11, L_12, L_13, L_14, L_15, L_16, L_17, L_18, L_19, L_20, L_24, L_27, L_30, L_31, L_32, L_35, L_36, L_40, L_41, L_43, L_44, L_45, L_46, L_47, L_48, L_50, L_54, L_57, L_58, L_59, L_60, L_61, L_62, L_63, L_91, L_93, L_96, L_97, L_98, L_99, L_100, L_103, L_122, L_145, L_150, L_200, L_255, L_600, L_999, L_1000, L_2000, L_9999, L_10000, L_32767, L_12345, oI_s, oI_n, L_mn, if_true, if_false, ite_true, ite_false, Bool.false_eq_true, Nat.reduceEqDiff, Nat.reduceLeDiff, Nat.reduceLT, Nat.reduceAdd, Nat.reduceSub, Nat.reduceMul, Nat.le_refl, Nat.lt_irrefl, Nat.not_lt_zero]
      refine ⟨fun z => absurd z (by omega), fun _ => r_paysAll (hE.f hu aS_lo) hβ hr hR.1 (fun u2 hu2 hr2 => ?_)⟩
      have hu2' := hu.trans hu2
      have hR2 := rw_pb ht hβ hR
      have hs := sm_b ht hR2.1
      obtain ⟨f, hf⟩ : ∃ f, 61 - i = f + 1 := ⟨60 - i, by omega⟩
      rw [hf, snF_s T β C n f R] at e
      refine R_owedAll (hE.f hu2' aS_lo) hr2 ?_
      have e0 : sm (pa T β R (T 7 1)) (T 7 1) = sm (pb T β R) (T 7 1) := rfl
      rw [e0]
      have e4 : u2.1 104 62 = nI (S 62) := (hu2'.2 _ _ rfl).trans h104
      try simp (disch := omega) only [s_Ii, s_Jj, s_Vn, forall_eq, L_m1, nI_add, nI_clamp, nI_leI, nI_ltI, nI_eq, vp_nI, pk_mul, pk_sub, Nat.zero_add, Nat.add_zero, wr_2, Classical.not_not, true_and, and_true, ne_eq, false_implies, true_implies, implies_true, not_true_eq_false, not_false_eq_true, ia_0, ia_1, za_1, ia_2, za_2, ia_3, za_3, ia_4, za_4, ia_5, za_5, ia_6, za_6, ia_7, za_7, ia_8, za_8, ia_9, za_9, ia_10, za_10, ia_11, za_11, ia_12, za_12, ia_13, za_13, ia_14, za_14, ia_15, za_15, ib_0, ib_1, zb_1, ic_0, ic_1, ic_2, ic_3, zc_1, zc_2, zc_3, id_0, id_1, id_2, id_3, zd_1, zd_2, zd_3, L_0, L_1, L_2, L_3, L_4, L_5, L_6, L_7, L_8, L_9, L_10, L_11, L_12, L_13, L_14, L_15, L_16, L_17, L_18, L_19, L_20, L_24, L_27, L_30, L_31, L_32, L_35, L_36, L_40, L_41, L_43, L_44, L_45, L_46, L_47, L_48, L_50, L_54, L_57, L_58, L_59, L_60, L_61, L_62, L_63, L_91, L_93, L_96, L_97, L_98, L_99, L_100, L_103, L_122, L_145, L_150, L_200, L_255, L_600, L_999, L_1000, L_2000, L_9999, L_10000, L_32767, L_12345, oI_s, oI_n, L_mn, if_true, if_false, ite_true, ite_false, Bool.false_eq_true, Nat.reduceEqDiff, Nat.reduceLeDiff, Nat.reduceLT, Nat.reduceAdd, Nat.reduceSub, Nat.reduceMul, Nat.le_refl, Nat.lt_irrefl, Nat.not_lt_zero, e4]
      refine ⟨fun z => ?_, fun z => ?_⟩
      · rw [if_neg z] at e
        refine r_goes2 (hE.f hu2' aS_lo) hr2 hR2 (fun v u3 hu3 hr3 => ?_)
        refine ih u3 _ (hu2'.trans hu3) hr3 (rw_nx ht hR2) ?_ (by rw [show 61 - (i + 1) = f by omega]; exact e)
        have e6 : pa T β R (T 7 1) 62 = R 62 := pa_62 ht hβ _ (Nat.le_refl _)
        by_cases q : R 62 = 200
        · right
          have e5 : nx T C n (pa T β R (T 7 1)) = pb T β R := by
            unfold nx
            rw [if_pos (by rw [e6]; exact q)]
            rfl
          rw [e5]
          exact ⟨by rw [pb_62 ht hβ]; exact q, pb_pb ht hβ, z⟩
        · left
          unfold nx
          rw [if_neg (by rw [e6]; exact q), ps_62, e6]
          have := h2.resolve_right (fun q2 => q q2.1)
          omega
      · rw [if_pos z] at e
        rcases h2 with h2 | ⟨-, h3, h4⟩
        · have := h u2 hu2'
          rw [← e, oI_s, h2] at this
          exact this
        · rw [h3] at z
          exact absurd z h4
  exact loop 0 (by omega) w S (fr.refl _ _) hS hB (Or.inl rfl) rfl
def stN (T : Tb) (β C : Nat → Nat) (n : Nat) (S : Nat → Nat) : Nat → Nat → Nat
  | 0 => S
  | i + 1 => nx T C n (pb T β (stN T β C n S i))
theorem rw_st {T : Tb} {β C : Nat → Nat} {n : Nat} {S : Nat → Nat} (ht : tb T) (hβ : ordered T β) (h : rw2 T S) : ∀ i, rw2 T (stN T β C n S i) := by
  intro i
  induction i with
  | zero => exact h
  | succ i ih => exact rw_nx ht (rw_pb ht hβ ih)
theorem K_owedBehind {d o l n m : Nat} {T : Tb} {β C S : Nat → Nat} {w : q_Sm} {Q : Int32 → q_Sm → Prop} {X : s_Xo} (hE : KE o l T β C n w) (hS : cR 57 S w) (hB : rw2 T S) (hm : m ≤ 60)
    (h : ∀ u, fr aF w u → Q (nI (sm (stN T β C n S m) (T 7 1))) u) : s_EvI (d + 5) 0 mX4_owedBehind w [.ref 67, .int (nI m), .ref 56, .ref o, .ref l] Q X := by
  have ht := hE.2.2.1
  have hβ := hE.ord
  have loop : ∀ i, i ≤ m → ∀ u, fr aF w u → cR 69 (stN T β C n S i) u → s_Ex (d + 5) 0 mX4_owedBehind 11 [some (.ref 67), some (.int (nI m)), none, some (.ref o), some (.ref l), some (.int (nI i))] [] u (s_I Q) X := by
    refine n_down ?_ ?_
    · intro u hu hr
      apply xX4_owedBehind_11
      unfold vX4_owedBehind_11
      try simp (disch := omega) only [s_Ii, s_Jj, s_Vn, forall_eq, L_m1, nI_add, nI_clamp, nI_leI, nI_ltI, nI_eq, vp_nI, pk_mul, pk_sub, Nat.zero_add, Nat.add_zero, wr_2, Classical.not_not, true_and, and_true, ne_eq, false_implies, true_implies, implies_true, not_true_eq_false, not_false_eq_true, ia_0, ia_1, za_1, ia_2, za_2, ia_3, za_3, ia_4, za_4, ia_5, za_5, ia_6, za_6, ia_7, za_7, ia_8, za_8, ia_9, za_9, ia_10, za_10, ia_11, za_11, ia_12, za_12, ia_13, za_13, ia_14, za_14, ia_15, za_15, ib_0, ib_1, zb_1, ic_0, ic_1, ic_2, ic_3, zc_1, zc_2, zc_3, id_0, id_1, id_2, id_3, zd_1, zd_2, zd_3, L_0, L_1, L_2, L_3, L_4, L_5, L_6, L_7, L_8, L_9, L_10, L_11, L_12, L_13, L_14, L_15, L_16, L_17, L_18, L_19, L_20, L_24, L_27, L_30, L_31, L_32, L_35, L_36, L_40, L_41, L_43, L_44, L_45, L_46, L_47, L_48, L_50, L_54, L_57, L_58, L_59, L_60, L_61, L_62, L_63, L_91, L_93, L_96, L_97, L_98, L_99, L_100, L_103, L_122, L_145, L_150, L_200, L_255, L_600, L_999, L_1000, L_2000, L_9999, L_10000, L_32767, L_12345, oI_s, oI_n, L_mn, if_true, if_false, ite_true, ite_false, Bool.false_eq_true, Nat.reduceEqDiff, Nat.reduceLeDiff, Nat.reduceLT, Nat.reduceAdd, Nat.reduceSub, Nat.reduceMul, Nat.le_refl, Nat.lt_irrefl, Nat.not_lt_zero]
      refine K_owedInAll (hE.f hu aF_lo) (Or.inr rfl) hr ?_
      exact h u hu
    · intro i hi ih u hu hr
      apply xX4_owedBehind_11
      unfold vX4_owedBehind_11
      try simp (disch := omega) only [s_Ii, s_Jj, s_Vn, forall_eq, L_m1, nI_add, nI_clamp, nI_leI, nI_ltI, nI_eq, vp_nI, pk_mul, pk_sub, Nat.zero_add, Nat.add_zero, wr_2, Classical.not_not, true_and, and_true, ne_eq, false_implies, true_implies, implies_true, not_true_eq_false, not_false_eq_true, ia_0, ia_1, za_1, ia_2, za_2, ia_3, za_3, ia_4, za_4, ia_5, za_5, ia_6, za_6, ia_7, za_7, ia_8, za_8, ia_9, za_9, ia_10, za_10, ia_11, za_11, ia_12, za_12, ia_13, za_13, ia_14, za_14, ia_15, za_15, ib_0, ib_1, zb_1, ic_0, ic_1, ic_2, ic_3, zc_1, zc_2, zc_3, id_0, id_1, id_2, id_3, zd_1, zd_2, zd_3, L_0, L_1, L_2, L_3, L_4, L_5, L_6, L_7, L_8, L_9, L_10, L_11, L_12, L_13, L_14, L_15, L_16, L_17, L_18, L_19, L_20, L_24, L_27, L_30, L_31, L_32, L_35, L_36, L_40, L_41, L_43, L_44, L_45, L_46, L_47, L_48, L_50, L_54, L_57, L_58, L_59, L_60, L_61, L_62, L_63, L_91, L_93, L_96, L_97, L_98, L_99, L_100, L_103, L_122, L_145, L_150, L_200, L_255, L_600, L_999, L_1000, L_2000, L_9999, L_10000, L_32767, L_12345, oI_s, oI_n, L_mn, if_true, if_false, ite_true, ite_false, Bool.false_eq_true, Nat.reduceEqDiff, Nat.reduceLeDiff, Nat.reduceLT, Nat.reduceAdd, Nat.reduceSub, Nat.reduceMul, Nat.le_refl, Nat.lt_irrefl, Nat.not_lt_zero]
      have hR := rw_st (C := C) (n := n) ht hβ hB i
      refine ⟨fun z => absurd z (by omega), fun _ => K_payByTerm (hE.f hu aF_lo) (Or.inr rfl) hr hR.1 (fun u2 hu2 hr2 => ?_)⟩
      have hu2' := hu.trans (hu2.mono aR_aF)
      refine K_pass2 (hE.f hu2' aF_lo) hr2 (rw_pb ht hβ hR) (fun v u3 hu3 hr3 => ?_)
      try simp (disch := omega) only [s_Ii, s_Jj, s_Vn, forall_eq, L_m1, nI_add, nI_clamp, nI_leI, nI_ltI, nI_eq, vp_nI, pk_mul, pk_sub, Nat.zero_add, Nat.add_zero, wr_2, Classical.not_not, true_and, and_true, ne_eq, false_implies, true_implies, implies_true, not_true_eq_false, not_false_eq_true, ia_0, ia_1, za_1, ia_2, za_2, ia_3, za_3, ia_4, za_4, ia_5, za_5, ia_6, za_6, ia_7, za_7, ia_8, za_8, ia_9, za_9, ia_10, za_10, ia_11, za_11, ia_12, za_12, ia_13, za_13, ia_14, za_14, ia_15, za_15, ib_0, ib_1, zb_1, ic_0, ic_1, ic_2, ic_3, zc_1, zc_2, zc_3, id_0, id_1, id_2, id_3, zd_1, zd_2, zd_3, L_0, L_1, L_2, L_3, L_4, L_5, L_6, L_7, L_8, L_9, L_10, L_11, L_12, L_13, L_14, L_15, L_16, L_17, L_18, L_19, L_20, L_24, L_27, L_30, L_31, L_32, L_35, L_36, L_40, L_41, L_43, L_44, L_45, L_46, L_47, L_48, L_50, L_54, L_57, L_58, L_59, L_60, L_61, L_62, L_63, L_91, L_93, L_96, L_97, L_98, L_99, L_100, L_103, L_122, L_145, L_150, L_200, L_255, L_600, L_999, L_1000, L_2000, L_9999, L_10000, L_32767, L_12345, oI_s, oI_n, L_mn, if_true, if_false, ite_true, ite_false, Bool.false_eq_true, Nat.reduceEqDiff, Nat.reduceLeDiff, Nat.reduceLT, Nat.reduceAdd, Nat.reduceSub, Nat.reduceMul, Nat.le_refl, Nat.lt_irrefl, Nat.not_lt_zero]
      exact ih u3 (hu2'.trans (hu3.mono aR_aF)) hr3
  apply eX4_owedBehind
  unfold vX4_owedBehind_0
  exact K_copy hS (fun u hu hr => loop 0 (by omega) u (hu.mono aR_aF) hr)
theorem r_leftL {d n m : Nat} {T : Tb} {β C S : Nat → Nat} {w : q_Sm} {Q : Int32 → q_Sm → Prop} {X : s_Xo} (hE : RE T C n w) (hβ : ordered T β) (hS : rR 105 S w) (hB : rw2 T S) (hm : m ≤ 60)
    (h : ∀ u, fr aS w u → Q (nI (sm (stN T β C n S m) (T 7 1))) u) : s_Ex (d + 7) 0 mX12_left 29 [some (.ref 79), some (.int (nI m)), some (.int (nI 0))] [] w (s_I Q) X := by
  have ht := hE.1
  have loop : ∀ i, i ≤ m → ∀ u, fr aS w u → rR 105 (stN T β C n S i) u → s_Ex (d + 7) 0 mX12_left 29 [some (.ref 79), some (.int (nI m)), some (.int (nI i))] [] u (s_I Q) X := by
    refine n_down ?_ ?_
    · intro u hu hr
      apply xX12_left_29
      unfold vX12_left_29
      try simp (disch := omega) only [s_Ii, s_Jj, s_Vn, forall_eq, L_m1, nI_add, nI_clamp, nI_leI, nI_ltI, nI_eq, vp_nI, pk_mul, pk_sub, Nat.zero_add, Nat.add_zero, wr_2, Classical.not_not, true_and, and_true, ne_eq, false_implies, true_implies, implies_true, not_true_eq_false, not_false_eq_true, ia_0, ia_1, za_1, ia_2, za_2, ia_3, za_3, ia_4, za_4, ia_5, za_5, ia_6, za_6, ia_7, za_7, ia_8, za_8, ia_9, za_9, ia_10, za_10, ia_11, za_11, ia_12, za_12, ia_13, za_13, ia_14, za_14, ia_15, za_15, ib_0, ib_1, zb_1, ic_0, ic_1, ic_2, ic_3, zc_1, zc_2, zc_3, id_0, id_1, id_2, id_3, zd_1, zd_2, zd_3, L_0, L_1, L_2, L_3, L_4, L_5, L_6, L_7, L_8, L_9, L_10, L_11, L_12, L_13, L_14, L_15, L_16, L_17, L_18, L_19, L_20, L_24, L_27, L_30, L_31, L_32, L_35, L_36, L_40, L_41, L_43, L_44, L_45, L_46, L_47, L_48, L_50, L_54, L_57, L_58, L_59, L_60, L_61, L_62, L_63, L_91, L_93, L_96, L_97, L_98, L_99, L_100, L_103, L_122, L_145, L_150, L_200, L_255, L_600, L_999, L_1000, L_2000, L_9999, L_10000, L_32767, L_12345, oI_s, oI_n, L_mn, if_true, if_false, ite_true, ite_false, Bool.false_eq_true, Nat.reduceEqDiff, Nat.reduceLeDiff, Nat.reduceLT, Nat.reduceAdd, Nat.reduceSub, Nat.reduceMul, Nat.le_refl, Nat.lt_irrefl, Nat.not_lt_zero]
      refine R_owedAll (hE.f hu aS_lo) hr ?_
      exact h u hu
    · intro i hi ih u hu hr
      apply xX12_left_29
      unfold vX12_left_29
      try simp (disch := omega) only [s_Ii, s_Jj, s_Vn, forall_eq, L_m1, nI_add, nI_clamp, nI_leI, nI_ltI, nI_eq, vp_nI, pk_mul, pk_sub, Nat.zero_add, Nat.add_zero, wr_2, Classical.not_not, true_and, and_true, ne_eq, false_implies, true_implies, implies_true, not_true_eq_false, not_false_eq_true, ia_0, ia_1, za_1, ia_2, za_2, ia_3, za_3, ia_4, za_4, ia_5, za_5, ia_6, za_6, ia_7, za_7, ia_8, za_8, ia_9, za_9, ia_10, za_10, ia_11, za_11, ia_12, za_12, ia_13, za_13, ia_14, za_14, ia_15, za_15, ib_0, ib_1, zb_1, ic_0, ic_1, ic_2, ic_3, zc_1, zc_2, zc_3, id_0, id_1, id_2, id_3, zd_1, zd_2, zd_3, L_0, L_1, L_2, L_3, L_4, L_5, L_6, L_7, L_8, L_9, L_10, L_11, L_12, L_13, L_14, L_15, L_16, L_17, L_18, L_19, L_20, L_24, L_27, L_30, L_31, L_32, L_35, L_36, L_40, L_41, L_43, L_44, L_45, L_46, L_47, L_48, L_50, L_54, L_57, L_58, L_59, L_60, L_61, L_62, L_63, L_91, L_93, L_96, L_97, L_98, L_99, L_100, L_103, L_122, L_145, L_150, L_200, L_255, L_600, L_999, L_1000, L_2000, L_9999, L_10000, L_32767, L_12345, oI_s, oI_n, L_mn, if_true, if_false, ite_true, ite_false, Bool.false_eq_true, Nat.reduceEqDiff, Nat.reduceLeDiff, Nat.reduceLT, Nat.reduceAdd, Nat.reduceSub, Nat.reduceMul, Nat.le_refl, Nat.lt_irrefl, Nat.not_lt_zero]
      have hR := rw_st (C := C) (n := n) ht hβ hB i
      refine ⟨fun z => absurd z (by omega), fun _ => r_paysAll (hE.f hu aS_lo) hβ hr hR.1 (fun u2 hu2 hr2 => ?_)⟩
      have hu2' := hu.trans hu2
      refine r_goes2 (hE.f hu2' aS_lo) hr2 (rw_pb ht hβ hR) (fun v u3 hu3 hr3 => ?_)
      try simp (disch := omega) only [s_Ii, s_Jj, s_Vn, forall_eq, L_m1, nI_add, nI_clamp, nI_leI, nI_ltI, nI_eq, vp_nI, pk_mul, pk_sub, Nat.zero_add, Nat.add_zero, wr_2, Classical.not_not, true_and, and_true, ne_eq, false_implies, true_implies, implies_true, not_true_eq_false, not_false_eq_true, ia_0, ia_1, za_1, ia_2, za_2, ia_3, za_3, ia_4, za_4, ia_5, za_5, ia_6, za_6, ia_7, za_7, ia_8, za_8, ia_9, za_9, ia_10, za_10, ia_11, za_11, ia_12, za_12, ia_13, za_13, ia_14, za_14, ia_15, za_15, ib_0, ib_1, zb_1, ic_0, ic_1, ic_2, ic_3, zc_1, zc_2, zc_3, id_0, id_1, id_2, id_3, zd_1, zd_2, zd_3, L_0, L_1, L_2, L_3, L_4, L_5, L_6, L_7, L_8, L_9, L_10, L_11, L_12, L_13, L_14, L_15, L_16, L_17, L_18, L_19, L_20, L_24, L_27, L_30, L_31, L_32, L_35, L_36, L_40, L_41, L_43, L_44, L_45, L_46, L_47, L_48, L_50, L_54, L_57, L_58, L_59, L_60, L_61, L_62, L_63, L_91, L_93, L_96, L_97, L_98, L_99, L_100, L_103, L_122, L_145, L_150, L_200, L_255, L_600, L_999, L_1000, L_2000, L_9999, L_10000, L_32767, L_12345, oI_s, oI_n, L_mn, if_true, if_false, ite_true, ite_false, Bool.false_eq_true, Nat.reduceEqDiff, Nat.reduceLeDiff, Nat.reduceLT, Nat.reduceAdd, Nat.reduceSub, Nat.reduceMul, Nat.le_refl, Nat.lt_irrefl, Nat.not_lt_zero]
      exact ih u3 (hu2'.trans hu3) hr3
  exact loop 0 (by omega) w (fr.refl _ _) hS
