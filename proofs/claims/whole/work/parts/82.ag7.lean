/-! agreement: what a creditor gets -/
def lvl (T : Tb) (S : Nat → Nat) (k b : Nat) : Nat := sm (fun c => min (sm (clm T S c k) (T 7 1)) b) (T 7 0)
theorem clm_le {T : Tb} {S : Nat → Nat} (ht : tb T) (h : rb T S) (c k : Nat) : sm (clm T S c k) (T 7 1) ≤ 99990 := by
  have h1 := sm_le (f := clm T S c k) (b := 9999) (T 7 1) (fun d hd => by have := (h.1 d hd).1; unfold clm; split <;> omega)
  have h2 := tb_nd ht
  have : T 7 1 * 9999 ≤ 10 * 9999 := Nat.mul_le_mul_right _ h2
  omega
theorem sm_mon {f g : Nat → Nat} : ∀ n, (∀ k, k < n → f k ≤ g k) → sm f n ≤ sm g n := by
  intro n
  induction n with
  | zero => intro _; exact Nat.le_refl _
  | succ n ih =>
    intro h
    have h1 := ih (fun k hk => h k (by omega))
    have h2 := h n (by omega)
    show sm f n + f n ≤ sm g n + g n
    omega
theorem lvl_mono {T : Tb} {S : Nat → Nat} {k a b : Nat} (h : a ≤ b) : lvl T S k a ≤ lvl T S k b := sm_mon _ (fun c _ => by omega)
theorem lvl_b {T : Tb} {S : Nat → Nat} {k b : Nat} (ht : tb T) (h : rb T S) : lvl T S k b ≤ 599940 := by
  have h1 := sm_le (f := fun c => min (sm (clm T S c k) (T 7 1)) b) (b := 99990) (T 7 0) (fun c _ => by have := clm_le ht h c k; omega)
  have h2 := tb_nc ht
  have : T 7 0 * 99990 ≤ 6 * 99990 := Nat.mul_le_mul_right _ h2
  unfold lvl
  omega
theorem sm_part {f : Nat → Nat} {c : Nat} : ∀ n, c < n → f c ≤ sm f n := by
  intro n
  induction n with
  | zero => intro h; omega
  | succ n ih =>
    intro h
    show f c ≤ sm f n + f n
    by_cases q : c = n
    · rw [q]; omega
    · have := ih (by omega); omega
theorem sm_fub (f : Nat → Nat → Nat) (m : Nat) : ∀ n, sm (fun c => sm (f c) m) n = sm (fun d => sm (fun c => f c d) n) m := by
  intro n
  induction n with
  | zero =>
    show 0 = sm (fun _ => 0) m
    have := sm_z (f := fun _ => 0) (n := 0) m (by omega) (fun _ _ _ => rfl)
    rw [this]; rfl
  | succ n ih =>
    show sm (fun c => sm (f c) m) n + sm (f n) m = sm (fun d => sm (fun c => f c d) n + f n d) m
    rw [ih, sm_add (fun d => sm (fun c => f c d) n) (f n)]
theorem sm_one {n a v : Nat} (ha : a < n) : sm (fun c => if a = c then v else 0) n = v := by
  have : ∀ m, sm (fun c => if a = c then v else 0) m = if a < m then v else 0 := by
    intro m
    induction m with
    | zero => simp [sm]
    | succ m ih =>
      show sm (fun c => if a = c then v else 0) m + (if a = m then v else 0) = _
      rw [ih]
      by_cases q : a = m
      · rw [if_neg (by omega), if_pos q, if_pos (by omega)]; omega
      · rw [if_neg q]
        by_cases q2 : a < m
        · rw [if_pos q2, if_pos (by omega)]; rfl
        · rw [if_neg q2, if_neg (by omega)]
  rw [this, if_pos ha]
theorem clm_all {T : Tb} {S : Nat → Nat} (h : rb T S) (k : Nat) : sm (fun c => sm (clm T S c k) (T 7 1)) (T 7 0) = sm (oof T S k) (T 7 1) := by
  rw [sm_fub (fun c => clm T S c k)]
  refine sm_c _ (fun d hd => ?_)
  have hb := (h.1 d hd).2.1
  show sm (fun c => clm T S c k d) (T 7 0) = oof T S k d
  unfold oof
  by_cases q : cl T d = k
  · rw [if_pos q]
    have e : (fun c => clm T S c k d) = (fun c => if S (10 + d) = c then S d else 0) := by
      funext c
      unfold clm
      by_cases q2 : S (10 + d) = c
      · rw [if_pos ⟨q2, q⟩, if_pos q2]
      · rw [if_neg (fun z => q2 z.1), if_neg q2]
    rw [e, sm_one hb]
  · rw [if_neg q]
    have := sm_z (f := fun c => clm T S c k d) (n := 0) (T 7 0) (by omega) (fun c _ _ => if_neg (fun z => q z.2))
    rw [this]; rfl
theorem lvl_big {T : Tb} {S : Nat → Nat} (ht : tb T) (h : rb T S) (k : Nat) {b : Nat} (hb : 99990 ≤ b) : lvl T S k b = sm (oof T S k) (T 7 1) := by
  rw [← clm_all h k]
  refine sm_c _ (fun c _ => ?_)
  have := clm_le ht h c k
  show min _ b = _
  omega
/-- the greatest bound -/
def lvB (T : Tb) (S : Nat → Nat) (k n F : Nat) : Prop := F ≤ n ∧ lvl T S k F ≤ n ∧ (F = n ∨ n < lvl T S k (F + 1))
theorem lv_over {T : Tb} {S : Nat → Nat} {k n : Nat} (ht : tb T) (h : rb T S) (hn : n < sm (oof T S k) (T 7 1)) : n < lvl T S k (n + 1) := by
  refine Classical.byContradiction (fun q => ?_)
  have hall : ∀ c, c < T 7 0 → sm (clm T S c k) (T 7 1) ≤ n := by
    intro c hc
    have h1 := sm_part (f := fun c => min (sm (clm T S c k) (T 7 1)) (n + 1)) (T 7 0) hc
    have h2 : lvl T S k (n + 1) = sm (fun c => min (sm (clm T S c k) (T 7 1)) (n + 1)) (T 7 0) := rfl
    have h1 : min (sm (clm T S c k) (T 7 1)) (n + 1) ≤ sm (fun c => min (sm (clm T S c k) (T 7 1)) (n + 1)) (T 7 0) := h1
    omega
  have e : lvl T S k (n + 1) = sm (oof T S k) (T 7 1) := by
    rw [← clm_all h k]
    refine sm_c _ (fun c hc => ?_)
    have := hall c hc
    show min _ _ = _
    omega
  omega
theorem K_givenBy {d n b k l : Nat} {T : Tb} {β C S : Nat → Nat} {w : q_Sm} {Q : Int32 → q_Sm → Prop} {X : s_Xo} (hE : KE w.2.2.1 l T β C n w) (hS : cR 57 S w) (hB : rb T S) (hb : b < 2 ^ 31) (hk : k < 2 ^ 31) (h : Q (nI (lvl T S k b)) w) : s_EvI (d + 3) 0 mX11_givenBy w [.ref 1, .int (nI b), .int (nI k)] Q X := by
  have hnc := tb_nc hE.2.2.1
  have hoo := hE.1
  have loop : ∀ i, i ≤ T 7 0 → s_Ex (d + 3) 0 mX11_givenBy 5 [some (.ref 1), some (.int (nI b)), some (.int (nI k)), some (.int (nI (sm (fun c => min (sm (clm T S c k) (T 7 1)) b) i))), some (.int (nI i))] [] w (s_I Q) X := by
    refine n_down ?_ ?_
    · apply xX11_givenBy_5
      unfold vX11_givenBy_5
      try simp (disch := omega) only [s_Ii, s_Jj, s_Vn, forall_eq, L_m1, nI_add, nI_clamp, nI_leI, nI_ltI, nI_eq, vp_nI, pk_mul, pk_sub, Nat.zero_add, Nat.add_zero, wr_2, Classical.not_not, true_and, and_true, ne_eq, false_implies, true_implies, implies_true, not_true_eq_false, not_false_eq_true, ia_0, ia_1, za_1, ia_2, za_2, ia_3, za_3, ia_4, za_4, ia_5, za_5, ia_6, za_6, ia_7, za_7, ia_8, za_8, ia_9, za_9, ia_10, za_10, ia_11, za_11, ia_12, za_12, ia_13, za_13, ia_14, za_14, ia_15, za_15, ib_0, ib_1, zb_1, ic_0, ic_1, ic_2, ic_3, zc_1, zc_2, zc_3, id_0, id_1, id_2, id_3, zd_1, zd_2, zd_3, L_0, L_1, L_2, L_3, L_4, L_5, L_6, L_7, L_8, L_9, L_10, L_11, L_12, L_13, L_14, L_15, L_16, L_17, L_18, L_19, L_20, L_24, L_27, L_30, L_31, L_32, L_35, L_36, L_40, L_41, L_43, L_44, L_45, L_46, L_47, L_48, L_50, L_54, L_57, L_58, L_59, L_60, L_61, L_62, L_63, L_91, L_93, L_96, L_97, L_98, L_99, L_100, L_103, L_122, L_145, L_150, L_200, L_255, L_600, L_999, L_1000, L_2000, L_9999, L_10000, L_32767, L_12345, oI_s, oI_n, L_mn, if_true, if_false, ite_true, ite_false, Bool.false_eq_true, Nat.reduceEqDiff, Nat.reduceLeDiff, Nat.reduceLT, Nat.reduceAdd, Nat.reduceSub, Nat.reduceMul, Nat.le_refl, Nat.lt_irrefl, Nat.not_lt_zero, hE.nc]
      exact h
    · intro i hi ih
      have hc := clm_le hE.2.2.1 hB i k
      apply xX11_givenBy_5
      unfold vX11_givenBy_5
      try simp (disch := omega) only [s_Ii, s_Jj, s_Vn, forall_eq, L_m1, nI_add, nI_clamp, nI_leI, nI_ltI, nI_eq, vp_nI, pk_mul, pk_sub, Nat.zero_add, Nat.add_zero, wr_2, Classical.not_not, true_and, and_true, ne_eq, false_implies, true_implies, implies_true, not_true_eq_false, not_false_eq_true, ia_0, ia_1, za_1, ia_2, za_2, ia_3, za_3, ia_4, za_4, ia_5, za_5, ia_6, za_6, ia_7, za_7, ia_8, za_8, ia_9, za_9, ia_10, za_10, ia_11, za_11, ia_12, za_12, ia_13, za_13, ia_14, za_14, ia_15, za_15, ib_0, ib_1, zb_1, ic_0, ic_1, ic_2, ic_3, zc_1, zc_2, zc_3, id_0, id_1, id_2, id_3, zd_1, zd_2, zd_3, L_0, L_1, L_2, L_3, L_4, L_5, L_6, L_7, L_8, L_9, L_10, L_11, L_12, L_13, L_14, L_15, L_16, L_17, L_18, L_19, L_20, L_24, L_27, L_30, L_31, L_32, L_35, L_36, L_40, L_41, L_43, L_44, L_45, L_46, L_47, L_48, L_50, L_54, L_57, L_58, L_59, L_60, L_61, L_62, L_63, L_91, L_93, L_96, L_97, L_98, L_99, L_100, L_103, L_122, L_145, L_150, L_200, L_255, L_600, L_999, L_1000, L_2000, L_9999, L_10000, L_32767, L_12345, oI_s, oI_n, L_mn, if_true, if_false, ite_true, ite_false, Bool.false_eq_true, Nat.reduceEqDiff, Nat.reduceLeDiff, Nat.reduceLT, Nat.reduceAdd, Nat.reduceSub, Nat.reduceMul, Nat.le_refl, Nat.lt_irrefl, Nat.not_lt_zero, hE.nc]
      refine ⟨fun z => absurd z (by omega), fun _ => K_claim hE (Or.inl rfl) hS hB (by omega) hk (k_minN hb (by omega) ?_)⟩
      rw [nI_add, Nat.min_comm]
      exact ih
  apply eX11_givenBy
  unfold vX11_givenBy_0
  exact loop 0 (by omega)
theorem K_levelOf {d n m k l : Nat} {T : Tb} {β C S : Nat → Nat} {w : q_Sm} {Q : Int32 → q_Sm → Prop} {X : s_Xo} (hE : KE w.2.2.1 l T β C n w) (hS : cR 57 S w) (hB : rb T S) (hm : m ≤ 999) (hk : k < 2 ^ 31) (h : ∀ F, lvB T S k m F → Q (nI F) w) : s_EvI (d + 4) 0 mX11_levelOf w [.ref 1, .int (nI k), .int (nI m)] Q X := by
  have loop : ∀ i, i ≤ 20 → ∀ f g, f ≤ g → g ≤ m → g - f < 2 ^ (20 - i) → lvl T S k f ≤ m → (g = m ∨ m < lvl T S k (g + 1)) → s_Ex (d + 4) 0 mX11_levelOf 8 [some (.ref 1), some (.int (nI k)), some (.int (nI m)), some (.int (nI f)), some (.int (nI g)), some (.int (nI i)), none] [] w (s_I Q) X := by
    refine n_down ?_ ?_
    · intro f g h1 h2 h3 h4 h5
      have : f = g := by have : (2 : Nat) ^ (20 - 20) = 1 := rfl; omega
      subst this
      apply xX11_levelOf_8
      unfold vX11_levelOf_8
      exact ⟨fun _ => ⟨_, rfl, h f ⟨h2, h4, h5⟩⟩, fun z => absurd (show nI 20 ≤ nI 20 from nI_le (by omega) (by omega)) z⟩
    · intro i hi ih f g h1 h2 h3 h4 h5
      have hp : (2 : Nat) ^ (20 - i) = 2 * 2 ^ (20 - (i + 1)) := by
        rw [show 20 - i = (20 - (i + 1)) + 1 by omega, Nat.pow_succ, Nat.mul_comm]
      apply xX11_levelOf_8
      unfold vX11_levelOf_8
      refine ⟨fun z => absurd (show nI 20 ≤ nI i from z) (nI_ge hi (by omega)), fun _ => ⟨fun z => ?_, fun z => ?_⟩⟩
      · rw [nI_leI (by omega) (by omega)] at z
        have : f = g := by omega
        subst this
        exact ⟨_, rfl, h f ⟨h2, h4, h5⟩⟩
      · rw [nI_leI (by omega) (by omega)] at z
        have e1 : nI f + (nI g - nI f + 1) / 2 = nI (f + (g - f + 1) / 2) := by
          rw [pk_sub h1, nI_1, L_2, pk_div (by omega) (by omega) (by omega), nI_add]
        have e2 : nI (f + (g - f + 1) / 2) - 1 = nI (f + (g - f + 1) / 2 - 1) := by rw [L_1, pk_sub (by omega)]
        rw [e1, e2, nI_1]
        have hl := lvl_b (k := k) (b := f + (g - f + 1) / 2) hE.2.2.1 hB
        refine K_givenBy hE hS hB (by omega) hk ⟨fun z2 => ?_, fun z2 => ?_⟩
        · rw [nI_ltI (by omega) (by omega)] at z2
          refine ih f _ (by omega) (by omega) (by omega) h4 (Or.inr ?_)
          rw [show f + (g - f + 1) / 2 - 1 + 1 = f + (g - f + 1) / 2 by omega]
          exact z2
        · rw [nI_ltI (by omega) (by omega)] at z2
          exact ih _ g (by omega) h2 (by omega) (by omega) h5
  apply eX11_levelOf
  unfold vX11_levelOf_0
  refine loop 0 (by omega) 0 m (by omega) (Nat.le_refl _) ?_ ?_ (Or.inl rfl)
  · have : (2 : Nat) ^ (20 - 0) = 1048576 := rfl
    omega
  · have e : lvl T S k 0 = 0 := by
      have := sm_z (f := fun c => min (sm (clm T S c k) (T 7 1)) 0) (n := 0) (T 7 0) (by omega) (fun c _ _ => by simp)
      exact this
    omega
theorem R_levelled {d n b k : Nat} {T : Tb} {C S : Nat → Nat} {w : q_Sm} {Q : Int32 → q_Sm → Prop} {X : s_Xo} (hE : RE T C n w) (hS : rR 104 S w) (hB : rb T S) (hb : b < 2 ^ 31) (hk : k < 2 ^ 31) (h : Q (nI (lvl T S k b)) w) : s_EvI (d + 3) 0 mX12_levelled w [.ref 79, .int (nI k), .int (nI b)] Q X := by
  have hnc := tb_nc hE.1
  have loop : ∀ i, i ≤ T 7 0 → s_Ex (d + 3) 0 mX12_levelled 5 [some (.ref 79), some (.int (nI k)), some (.int (nI b)), some (.int (nI (sm (fun c => min (sm (clm T S c k) (T 7 1)) b) i))), some (.int (nI i))] [] w (s_I Q) X := by
    refine n_down ?_ ?_
    · apply xX12_levelled_5
      unfold vX12_levelled_5
      try simp (disch := omega) only [s_Ii, s_Jj, s_Vn, forall_eq, L_m1, nI_add, nI_clamp, nI_leI, nI_ltI, nI_eq, vp_nI, pk_mul, pk_sub, Nat.zero_add, Nat.add_zero, wr_2, Classical.not_not, true_and, and_true, ne_eq, false_implies, true_implies, implies_true, not_true_eq_false, not_false_eq_true, ia_0, ia_1, za_1, ia_2, za_2, ia_3, za_3, ia_4, za_4, ia_5, za_5, ia_6, za_6, ia_7, za_7, ia_8, za_8, ia_9, za_9, ia_10, za_10, ia_11, za_11, ia_12, za_12, ia_13, za_13, ia_14, za_14, ia_15, za_15, ib_0, ib_1, zb_1, ic_0, ic_1, ic_2, ic_3, zc_1, zc_2, zc_3, id_0, id_1, id_2, id_3, zd_1, zd_2, zd_3, L_0, L_1, L_2, L_3, L_4, L_5, L_6, L_7, L_8, L_9, L_10, L_11, L_12, L_13, L_14, L_15, L_16, L_17, L_18, L_19, L_20, L_24, L_27, L_30, L_31, L_32, L_35, L_36, L_40, L_41, L_43, L_44, L_45, L_46, L_47, L_48, L_50, L_54, L_57, L_58, L_59, L_60, L_61, L_62, L_63, L_91, L_93, L_96, L_97, L_98, L_99, L_100, L_103, L_122, L_145, L_150, L_200, L_255, L_600, L_999, L_1000, L_2000, L_9999, L_10000, L_32767, L_12345, oI_s, oI_n, L_mn, if_true, if_false, ite_true, ite_false, Bool.false_eq_true, Nat.reduceEqDiff, Nat.reduceLeDiff, Nat.reduceLT, Nat.reduceAdd, Nat.reduceSub, Nat.reduceMul, Nat.le_refl, Nat.lt_irrefl, Nat.not_lt_zero, hE.nc]
      exact h
    · intro i hi ih
      have hc := clm_le hE.1 hB i k
      have e1 : sm (fun c => min (sm (clm T S c k) (T 7 1)) b) (i + 1) = sm (fun c => min (sm (clm T S c k) (T 7 1)) b) i + min (sm (clm T S i k) (T 7 1)) b := rfl
      rw [e1] at ih
      apply xX12_levelled_5
      unfold vX12_levelled_5
      try simp (disch := omega) only [s_Ii, s_Jj, s_Vn, forall_eq, L_m1, nI_add, nI_clamp, nI_leI, nI_ltI, nI_eq, vp_nI, pk_mul, pk_sub, Nat.zero_add, Nat.add_zero, wr_2, Classical.not_not, true_and, and_true, ne_eq, false_implies, true_implies, implies_true, not_true_eq_false, not_false_eq_true, ia_0, ia_1, za_1, ia_2, za_2, ia_3, za_3, ia_4, za_4, ia_5, za_5, ia_6, za_6, ia_7, za_7, ia_8, za_8, ia_9, za_9, ia_10, za_10, ia_11, za_11, ia_12, za_12, ia_13, za_13, ia_14, za_14, ia_15, za_15, ib_0, ib_1, zb_1, ic_0, ic_1, ic_2, ic_3, zc_1, zc_2, zc_3, id_0, id_1, id_2, id_3, zd_1, zd_2, zd_3, L_0, L_1, L_2, L_3, L_4, L_5, L_6, L_7, L_8, L_9, L_10, L_11, L_12, L_13, L_14, L_15, L_16, L_17, L_18, L_19, L_20, L_24, L_27, L_30, L_31, L_32, L_35, L_36, L_40, L_41, L_43, L_44, L_45, L_46, L_47, L_48, L_50, L_54, L_57, L_58, L_59, L_60, L_61, L_62, L_63, L_91, L_93, L_96, L_97, L_98, L_99, L_100, L_103, L_122, L_145, L_150, L_200, L_255, L_600, L_999, L_1000, L_2000, L_9999, L_10000, L_32767, L_12345, oI_s, oI_n, L_mn, if_true, if_false, ite_true, ite_false, Bool.false_eq_true, Nat.reduceEqDiff, Nat.reduceLeDiff, Nat.reduceLT, Nat.reduceAdd, Nat.reduceSub, Nat.reduceMul, Nat.le_refl, Nat.lt_irrefl, Nat.not_lt_zero, hE.nc]
      refine ⟨fun z => absurd z (by omega), fun _ => R_owedToK hE hS hB (by omega) hk ?_⟩
      try simp (disch := omega) only [s_Ii, s_Jj, s_Vn, forall_eq, L_m1, nI_add, nI_clamp, nI_leI, nI_ltI, nI_eq, vp_nI, pk_mul, pk_sub, Nat.zero_add, Nat.add_zero, wr_2, Classical.not_not, true_and, and_true, ne_eq, false_implies, true_implies, implies_true, not_true_eq_false, not_false_eq_true, ia_0, ia_1, za_1, ia_2, za_2, ia_3, za_3, ia_4, za_4, ia_5, za_5, ia_6, za_6, ia_7, za_7, ia_8, za_8, ia_9, za_9, ia_10, za_10, ia_11, za_11, ia_12, za_12, ia_13, za_13, ia_14, za_14, ia_15, za_15, ib_0, ib_1, zb_1, ic_0, ic_1, ic_2, ic_3, zc_1, zc_2, zc_3, id_0, id_1, id_2, id_3, zd_1, zd_2, zd_3, L_0, L_1, L_2, L_3, L_4, L_5, L_6, L_7, L_8, L_9, L_10, L_11, L_12, L_13, L_14, L_15, L_16, L_17, L_18, L_19, L_20, L_24, L_27, L_30, L_31, L_32, L_35, L_36, L_40, L_41, L_43, L_44, L_45, L_46, L_47, L_48, L_50, L_54, L_57, L_58, L_59, L_60, L_61, L_62, L_63, L_91, L_93, L_96, L_97, L_98, L_99, L_100, L_103, L_122, L_145, L_150, L_200, L_255, L_600, L_999, L_1000, L_2000, L_9999, L_10000, L_32767, L_12345, oI_s, oI_n, L_mn, if_true, if_false, ite_true, ite_false, Bool.false_eq_true, Nat.reduceEqDiff, Nat.reduceLeDiff, Nat.reduceLT, Nat.reduceAdd, Nat.reduceSub, Nat.reduceMul, Nat.le_refl, Nat.lt_irrefl, Nat.not_lt_zero]
      refine ⟨fun z => ?_, fun z => R_owedToK hE hS hB (by omega) hk ?_⟩
      · rw [Nat.min_eq_right z] at ih; exact ih
      · rw [Nat.min_eq_left (by omega)] at ih
        try simp (disch := omega) only [s_Ii, s_Jj, s_Vn, forall_eq, L_m1, nI_add, nI_clamp, nI_leI, nI_ltI, nI_eq, vp_nI, pk_mul, pk_sub, Nat.zero_add, Nat.add_zero, wr_2, Classical.not_not, true_and, and_true, ne_eq, false_implies, true_implies, implies_true, not_true_eq_false, not_false_eq_true, ia_0, ia_1, za_1, ia_2, za_2, ia_3, za_3, ia_4, za_4, ia_5, za_5, ia_6, za_6, ia_7, za_7, ia_8, za_8, ia_9, za_9, ia_10, za_10, ia_11, za_11, ia_12, za_12, ia_13, za_13, ia_14, za_14, ia_15, za_15, ib_0, ib_1, zb_1, ic_0, ic_1, ic_2, ic_3, zc_1, zc_2, zc_3, id_0, id_1, id_2, id_3, zd_1, zd_2, zd_3, L_0, L_1, L_2, L_3, L_4, L_5, L_6, L_7, L_8, L_9, L_10, L_11, L_12, L_13, L_14, L_15, L_16, L_17, L_18, L_19, L_20, L_24, L_27, L_30, L_31, L_32, L_35, L_36, L_40, L_41, L_43, L_44, L_45, L_46, L_47, L_48, L_50, L_54, L_57, L_58, L_59, L_60, L_61, L_62, L_63, L_91, L_93, L_96, L_97, L_98, L_99, L_100, L_103, L_122, L_145, L_150, L_200, L_255, L_600, L_999, L_1000, L_2000, L_9999, L_10000, L_32767, L_12345, oI_s, oI_n, L_mn, if_true, if_false, ite_true, ite_false, Bool.false_eq_true, Nat.reduceEqDiff, Nat.reduceLeDiff, Nat.reduceLT, Nat.reduceAdd, Nat.reduceSub, Nat.reduceMul, Nat.le_refl, Nat.lt_irrefl, Nat.not_lt_zero]
        exact ih
  apply eX12_levelled
  unfold vX12_levelled_0
  exact loop 0 (by omega)
def gtA (T : Tb) (S : Nat → Nat) (c k n how : Nat) (F : Nat) : Nat := if sm (oof T S k) (T 7 1) ≤ n then sm (clm T S c k) (T 7 1) else if how = 0 then n * sm (clm T S c k) (T 7 1) / sm (oof T S k) (T 7 1) else min (sm (clm T S c k) (T 7 1)) F
theorem lvB_ex (T : Tb) (S : Nat → Nat) (k n : Nat) : ∃ F, lvB T S k n F := by
  have : ∀ j F, F + j = n → lvl T S k F ≤ n → ∃ F, lvB T S k n F := by
    intro j
    induction j with
    | zero => intro F h1 h2; exact ⟨F, by omega, h2, Or.inl (by omega)⟩
    | succ j ih =>
      intro F h1 h2
      rcases Nat.lt_or_ge n (lvl T S k (F + 1)) with z | z
      · exact ⟨F, by omega, h2, Or.inr z⟩
      · exact ih (F + 1) (by omega) z
  refine this n 0 (by omega) ?_
  have e : lvl T S k 0 = 0 := by
    have := sm_z (f := fun c => min (sm (clm T S c k) (T 7 1)) 0) (n := 0) (T 7 0) (by omega) (fun c _ _ => by simp)
    exact this
  omega
theorem lvB_u {T : Tb} {S : Nat → Nat} {k n F G : Nat} (hF : lvB T S k n F) (hG : lvB T S k n G) : F = G := by
  have key : ∀ F G, lvB T S k n F → lvB T S k n G → ¬ F < G := by
    intro F G hF hG h
    rcases hF.2.2 with z | z
    · have := hG.1; omega
    · have := lvl_mono (T := T) (S := S) (k := k) (show F + 1 ≤ G by omega)
      have := hG.2.1
      omega
  have h1 := key F G hF hG
  have h2 := key G F hG hF
  omega
theorem clm_oof {T : Tb} {S : Nat → Nat} (h : rb T S) {c k : Nat} (hc : c < T 7 0) : sm (clm T S c k) (T 7 1) ≤ sm (oof T S k) (T 7 1) := by
  rw [← clm_all h k]
  exact sm_part (f := fun c => sm (clm T S c k) (T 7 1)) (T 7 0) hc
theorem oof_le {T : Tb} {S : Nat → Nat} (ht : tb T) (h : rb T S) (k : Nat) : sm (oof T S k) (T 7 1) ≤ 99990 := by
  have h1 := sm_le (f := oof T S k) (b := 9999) (T 7 1) (fun d hd => by have := (h.1 d hd).1; unfold oof; split <;> omega)
  have h2 := tb_nd ht
  have : T 7 1 * 9999 ≤ 10 * 9999 := Nat.mul_le_mul_right _ h2
  omega
theorem ag_gets (w : q_Sm) (hI : Inv w) (x1 : Int32) (x2 : Int32) (x3 : Int32) (x4 : Int32) : ag_W Inv 998 2 er_B mX11_gets mX12_gets w [.int x1, .int x2, .int x3, .int x4] := by
  obtain ⟨T, β, C, n, S, B, m, hC, hPst, hImg, hTp, hCnt⟩ := id hI
  have hE := hC.2.1
  have ht := hE.2.2.1
  have hRE := hC.2.2.1
  have hnc := tb_nc ht
  have hnd := tb_nd ht
  have hnw := tb_nw ht
  have hS := hC.2.2.2.1
  have hSr := hC.2.2.2.2.1
  have hok := hC.2.2.2.2.2.1
  have hβ := hE.ord
  rcases rngc x1 (T 7 0) (by omega) with ⟨j1, g1, rfl⟩ | e0
  rotate_left
  · have e0 : r_in x1 0 (nI (T 7 0) - 1) = 0 := e0
    refine agW_no hI "java/util/NoSuchElementException" (nI 1) 13 0 (by omega) (Or.inl ⟨rfl, rfl⟩) (fun Q X hX => ?_) (fun u hu Q X hQ => ?_)
    · apply eX11_gets
      unfold vX11_gets_0
      exact K_cred hE (fun _ => hX) (fun z => absurd (z.symm.trans e0) (by decide))
    · have hE1 : RE T C n (q_wI u 79 0 0) := (hRE.n1 hu).t
      have h79 : (q_wI u 79 0 0).1 79 0 = 0 := rd_s
      apply eX12_gets
      unfold vX12_gets_0
      rintro _ rfl
      refine R_cred0 (k := 1) hE1 (by omega) (by omega) e0 ?_
      first | exact ⟨fun _ => ⟨_, rfl, hQ⟩, fun z => absurd rfl z⟩ | exact ⟨fun z => absurd rfl z, fun _ => ⟨_, rfl, hQ⟩⟩
  have p0 : r_in (nI j1) 0 (nI (T 7 0) - 1) = 1 := r_inc g1 (by omega)
  rcases rng x2 3 (by omega) with ⟨j2, g2, rfl⟩ | e1
  rotate_left
  · have e1 : r_in x2 0 3 = 0 := e1
    refine agW_no hI "java/lang/IllegalArgumentException" (nI 2) 14 1 (by omega) (Or.inr ⟨rfl, rfl⟩) (fun Q X hX => ?_) (fun u hu Q X hQ => ?_)
    · apply eX11_gets
      unfold vX11_gets_0
      refine K_cred hE (fun z => absurd (z.symm.trans p0) (by decide)) (fun _ => ?_)
      refine K_isColour ?_
      rw [e1]
      exact ⟨fun _ => K_req0 hX, fun z => absurd rfl z⟩
    · have hE1 : RE T C n (q_wI u 79 0 0) := (hRE.n1 hu).t
      have h79 : (q_wI u 79 0 0).1 79 0 = 0 := rd_s
      apply eX12_gets
      unfold vX12_gets_0
      rintro _ rfl
      refine R_cred1 hE1 h79 p0 ?_
      first | refine ⟨fun z => absurd z (by decide), fun _ => ?_⟩ | refine ⟨fun _ => ?_, fun z => absurd (show ¬ (1 : Int32) = 0 by decide) z⟩
      refine R_isColour ?_
      rw [e1]
      refine ⟨fun _ => R_no (k := 2) (t := 1) (by omega) (by omega) (by omega) ?_, fun z => absurd rfl z⟩
      first | exact ⟨fun _ => ⟨_, rfl, hQ⟩, fun z => absurd rfl z⟩ | exact ⟨fun z => absurd rfl z, fun _ => ⟨_, rfl, hQ⟩⟩
  have p1 : r_in (nI j2) 0 3 = 1 := r_in1 (a := 0) (b := 3) (by omega) (by omega) (by omega)
  rcases rng x3 999 (by omega) with ⟨j3, g3, rfl⟩ | e2
  rotate_left
  · have e2 : r_in x3 0 999 = 0 := e2
    refine agW_no hI "java/lang/IllegalArgumentException" (nI 2) 14 1 (by omega) (Or.inr ⟨rfl, rfl⟩) (fun Q X hX => ?_) (fun u hu Q X hQ => ?_)
    · apply eX11_gets
      unfold vX11_gets_0
      refine K_cred hE (fun z => absurd (z.symm.trans p0) (by decide)) (fun _ => ?_)
      refine K_isColour ?_
      rw [p1]
      refine ⟨fun z => absurd z (by decide), fun _ => ?_⟩
      refine K_isIn ?_
      rw [e2]
      exact ⟨fun _ => K_req0 hX, fun z => absurd rfl z⟩
    · have hE1 : RE T C n (q_wI u 79 0 0) := (hRE.n1 hu).t
      have h79 : (q_wI u 79 0 0).1 79 0 = 0 := rd_s
      apply eX12_gets
      unfold vX12_gets_0
      rintro _ rfl
      refine R_cred1 hE1 h79 p0 ?_
      first | refine ⟨fun z => absurd z (by decide), fun _ => ?_⟩ | refine ⟨fun _ => ?_, fun z => absurd (show ¬ (1 : Int32) = 0 by decide) z⟩
      refine R_isColour ?_
      rw [p1]
      refine ⟨fun z => absurd z (by decide), fun _ => ?_⟩
      refine R_within ?_
      rw [e2]
      refine ⟨fun _ => R_no (k := 2) (t := 1) (by omega) (by omega) (by omega) ?_, fun z => absurd rfl z⟩
      first | exact ⟨fun _ => ⟨_, rfl, hQ⟩, fun z => absurd rfl z⟩ | exact ⟨fun z => absurd rfl z, fun _ => ⟨_, rfl, hQ⟩⟩
  have p2 : r_in (nI j3) 0 999 = 1 := r_in1 (a := 0) (b := 999) (by omega) (by omega) (by omega)
  rcases rng x4 1 (by omega) with ⟨j4, g4, rfl⟩ | e3
  rotate_left
  · have e3 : r_in x4 0 1 = 0 := e3
    refine agW_no hI "java/lang/IllegalArgumentException" (nI 2) 14 1 (by omega) (Or.inr ⟨rfl, rfl⟩) (fun Q X hX => ?_) (fun u hu Q X hQ => ?_)
    · apply eX11_gets
      unfold vX11_gets_0
      refine K_cred hE (fun z => absurd (z.symm.trans p0) (by decide)) (fun _ => ?_)
      refine K_isColour ?_
      rw [p1]
      refine ⟨fun z => absurd z (by decide), fun _ => ?_⟩
      refine K_isIn ?_
      rw [p2]
      refine ⟨fun z => absurd z (by decide), fun _ => ?_⟩
      refine K_isIn ?_
      rw [e3]
      exact ⟨fun _ => K_req0 hX, fun z => absurd rfl z⟩
    · have hE1 : RE T C n (q_wI u 79 0 0) := (hRE.n1 hu).t
      have h79 : (q_wI u 79 0 0).1 79 0 = 0 := rd_s
      apply eX12_gets
      unfold vX12_gets_0
      rintro _ rfl
      refine R_cred1 hE1 h79 p0 ?_
      first | refine ⟨fun z => absurd z (by decide), fun _ => ?_⟩ | refine ⟨fun _ => ?_, fun z => absurd (show ¬ (1 : Int32) = 0 by decide) z⟩
      refine R_isColour ?_
      rw [p1]
      refine ⟨fun z => absurd z (by decide), fun _ => ?_⟩
      refine R_within ?_
      rw [p2]
      refine ⟨fun z => absurd z (by decide), fun _ => ?_⟩
      refine R_within ?_
      rw [e3]
      refine ⟨fun _ => R_no (k := 2) (t := 1) (by omega) (by omega) (by omega) ?_, fun z => absurd rfl z⟩
      first | exact ⟨fun _ => ⟨_, rfl, hQ⟩, fun z => absurd rfl z⟩ | exact ⟨fun z => absurd rfl z, fun _ => ⟨_, rfl, hQ⟩⟩
  have p3 : r_in (nI j4) 0 1 = 1 := r_in1 (a := 0) (b := 1) (by omega) (by omega) (by omega)
  have hB := hok.1.1
  obtain ⟨F, hF⟩ := lvB_ex T S j2 j3
  have hcl := clm_le ht hB j1 j2
  have hco := clm_oof (k := j2) hB g1
  have hoo := oof_le ht hB j2
  have hpr : j3 * sm (clm T S j1 j2) (T 7 1) ≤ 999 * 99990 := Nat.mul_le_mul g3 hcl
  refine agW_ok (nI (gtA T S j1 j2 j3 j4 F)) hI (fun Q X hQ => ?_) (fun u hu Q X hQ => ?_)
  · apply eX11_gets
    unfold vX11_gets_0
    refine K_cred hE (fun z => absurd (z.symm.trans p0) (by decide)) (fun _ => ?_)
    refine K_isColour ?_
    rw [p1]
    refine ⟨fun z => absurd z (by decide), fun _ => ?_⟩
    refine K_isIn ?_
    rw [p2]
    refine ⟨fun z => absurd z (by decide), fun _ => ?_⟩
    refine K_isIn ?_
    rw [p3]
    refine ⟨fun z => absurd z (by decide), fun _ => K_req1 ?_⟩
    unfold gtA at hQ
    refine K_claim hE (Or.inl rfl) hS hB (by omega) (by omega) ?_
    try simp (disch := omega) only [s_Ii, s_Jj, s_Vn, forall_eq, L_m1, nI_add, nI_clamp, nI_leI, nI_ltI, nI_eq, vp_nI, pk_mul, pk_sub, Nat.zero_add, Nat.add_zero, wr_2, Classical.not_not, true_and, and_true, ne_eq, false_implies, true_implies, implies_true, not_true_eq_false, not_false_eq_true, ia_0, ia_1, za_1, ia_2, za_2, ia_3, za_3, ia_4, za_4, ia_5, za_5, ia_6, za_6, ia_7, za_7, ia_8, za_8, ia_9, za_9, ia_10, za_10, ia_11, za_11, ia_12, za_12, ia_13, za_13, ia_14, za_14, ia_15, za_15, ib_0, ib_1, zb_1, ic_0, ic_1, ic_2, ic_3, zc_1, zc_2, zc_3, id_0, id_1, id_2, id_3, zd_1, zd_2, zd_3, L_0, L_1, L_2, L_3, L_4, L_5, L_6, L_7, L_8, L_9, L_10, L_11, L_12, L_13, L_14, L_15, L_16, L_17, L_18, L_19, L_20, L_24, L_27, L_30, L_31, L_32, L_35, L_36, L_40, L_41, L_43, L_44, L_45, L_46, L_47, L_48, L_50, L_54, L_57, L_58, L_59, L_60, L_61, L_62, L_63, L_91, L_93, L_96, L_97, L_98, L_99, L_100, L_103, L_122, L_145, L_150, L_200, L_255, L_600, L_999, L_1000, L_2000, L_9999, L_10000, L_32767, L_12345, oI_s, oI_n, L_mn, if_true, if_false, ite_true, ite_false, Bool.false_eq_true, Nat.reduceEqDiff, Nat.reduceLeDiff, Nat.reduceLT, Nat.reduceAdd, Nat.reduceSub, Nat.reduceMul, Nat.le_refl, Nat.lt_irrefl, Nat.not_lt_zero]
    refine ⟨fun z => ?_, fun z => ?_⟩
    · have hj : j4 = 0 := by omega
      refine K_owedOf hE (Or.inl rfl) hS (by omega) (k_minN (by omega) (by omega) ?_)
      have hpr2 : min j3 (sm (oof T S j2) (T 7 1)) * sm (clm T S j1 j2) (T 7 1) ≤ 999 * 99990 := Nat.mul_le_mul (by omega) hcl
      try simp (disch := omega) only [s_Ii, s_Jj, s_Vn, forall_eq, L_m1, nI_add, nI_clamp, nI_leI, nI_ltI, nI_eq, vp_nI, pk_mul, pk_sub, Nat.zero_add, Nat.add_zero, wr_2, Classical.not_not, true_and, and_true, ne_eq, false_implies, true_implies, implies_true, not_true_eq_false, not_false_eq_true, ia_0, ia_1, za_1, ia_2, za_2, ia_3, za_3, ia_4, za_4, ia_5, za_5, ia_6, za_6, ia_7, za_7, ia_8, za_8, ia_9, za_9, ia_10, za_10, ia_11, za_11, ia_12, za_12, ia_13, za_13, ia_14, za_14, ia_15, za_15, ib_0, ib_1, zb_1, ic_0, ic_1, ic_2, ic_3, zc_1, zc_2, zc_3, id_0, id_1, id_2, id_3, zd_1, zd_2, zd_3, L_0, L_1, L_2, L_3, L_4, L_5, L_6, L_7, L_8, L_9, L_10, L_11, L_12, L_13, L_14, L_15, L_16, L_17, L_18, L_19, L_20, L_24, L_27, L_30, L_31, L_32, L_35, L_36, L_40, L_41, L_43, L_44, L_45, L_46, L_47, L_48, L_50, L_54, L_57, L_58, L_59, L_60, L_61, L_62, L_63, L_91, L_93, L_96, L_97, L_98, L_99, L_100, L_103, L_122, L_145, L_150, L_200, L_255, L_600, L_999, L_1000, L_2000, L_9999, L_10000, L_32767, L_12345, oI_s, oI_n, L_mn, if_true, if_false, ite_true, ite_false, Bool.false_eq_true, Nat.reduceEqDiff, Nat.reduceLeDiff, Nat.reduceLT, Nat.reduceAdd, Nat.reduceSub, Nat.reduceMul, Nat.le_refl, Nat.lt_irrefl, Nat.not_lt_zero, pk_div]
      refine ⟨fun z1 => ⟨z1, ?_⟩, fun z1 => ?_⟩
      · rw [pk_div (by omega) (by omega) (by omega)]
        by_cases q : sm (oof T S j2) (T 7 1) ≤ j3
        · rw [if_pos q] at hQ
          rw [Nat.min_eq_right q, Nat.mul_div_cancel_left _ (by omega)]
          exact hQ w (fr.refl _ _)
        · rw [if_neg q, if_pos hj] at hQ
          rw [Nat.min_eq_left (by omega)]
          exact hQ w (fr.refl _ _)
      · rw [if_pos (by omega), show sm (clm T S j1 j2) (T 7 1) = 0 by omega] at hQ
        exact hQ w (fr.refl _ _)
    · refine K_levelOf hE hS hB (by omega) (by omega) (fun G hG => ?_)
      have := lvB_u hG hF
      subst this
      have := hG.1
      refine k_minN (by omega) (by omega) ?_
      by_cases q : sm (oof T S j2) (T 7 1) ≤ j3
      · rw [if_pos q] at hQ
        have e : G = j3 := by
          rcases hG.2.2 with z2 | z2
          · exact z2
          · have h1 := lvl_mono (T := T) (S := S) (k := j2) (show G + 1 ≤ G + 1 + 99990 by omega)
            rw [lvl_big ht hB j2 (show 99990 ≤ G + 1 + 99990 by omega)] at h1
            omega
        rw [Nat.min_eq_left (by omega)]
        exact hQ w (fr.refl _ _)
      · rw [if_neg q, if_neg (by omega)] at hQ
        exact hQ w (fr.refl _ _)
  · have hCu := hC.sim hu
    have hE1 : RE T C n (q_wI u 79 0 0) := hCu.2.2.1.t
    have h79 : (q_wI u 79 0 0).1 79 0 = 0 := rd_s
    have hS1 : rR 104 S (q_wI u 79 0 0) := hCu.2.2.2.2.1.eq (fun j => rd_i (by omega))
    have hf1 : fr scr u (q_wI u 79 0 0) := scr_t
    apply eX12_gets
    unfold vX12_gets_0
    intro w1 hw1
    rw [← hw1] at hE1 h79 hS1 hf1
    refine R_cred1 hE1 h79 p0 ?_
    first | refine ⟨fun z => absurd z (by decide), fun _ => ?_⟩ | refine ⟨fun _ => ?_, fun z => absurd (show ¬ (1 : Int32) = 0 by decide) z⟩
    refine R_isColour ?_
    rw [p1]
    refine ⟨fun z => absurd z (by decide), fun _ => ?_⟩
    refine R_within ?_
    rw [p2]
    refine ⟨fun z => absurd z (by decide), fun _ => ?_⟩
    refine R_within ?_
    rw [p3]
    refine ⟨fun z => absurd z (by decide), fun _ => R_may1 h79 ?_⟩
    first | refine ⟨fun z => absurd z (by decide), fun _ => ?_⟩ | refine ⟨fun _ => ?_, fun z => absurd (show ¬ (1 : Int32) = 0 by decide) z⟩
    unfold gtA at hQ
    have e6 : (1000000 : Int32) = nI 1000000 := rfl
    rw [e6]
    refine R_owedToK hE1 hS1 hB (by omega) (by omega) (R_levelled hE1 hS1 hB (by omega) (by omega) ?_)
    rw [lvl_big ht hB j2 (by omega)]
    try simp (disch := omega) only [s_Ii, s_Jj, s_Vn, forall_eq, L_m1, nI_add, nI_clamp, nI_leI, nI_ltI, nI_eq, vp_nI, pk_mul, pk_sub, Nat.zero_add, Nat.add_zero, wr_2, Classical.not_not, true_and, and_true, ne_eq, false_implies, true_implies, implies_true, not_true_eq_false, not_false_eq_true, ia_0, ia_1, za_1, ia_2, za_2, ia_3, za_3, ia_4, za_4, ia_5, za_5, ia_6, za_6, ia_7, za_7, ia_8, za_8, ia_9, za_9, ia_10, za_10, ia_11, za_11, ia_12, za_12, ia_13, za_13, ia_14, za_14, ia_15, za_15, ib_0, ib_1, zb_1, ic_0, ic_1, ic_2, ic_3, zc_1, zc_2, zc_3, id_0, id_1, id_2, id_3, zd_1, zd_2, zd_3, L_0, L_1, L_2, L_3, L_4, L_5, L_6, L_7, L_8, L_9, L_10, L_11, L_12, L_13, L_14, L_15, L_16, L_17, L_18, L_19, L_20, L_24, L_27, L_30, L_31, L_32, L_35, L_36, L_40, L_41, L_43, L_44, L_45, L_46, L_47, L_48, L_50, L_54, L_57, L_58, L_59, L_60, L_61, L_62, L_63, L_91, L_93, L_96, L_97, L_98, L_99, L_100, L_103, L_122, L_145, L_150, L_200, L_255, L_600, L_999, L_1000, L_2000, L_9999, L_10000, L_32767, L_12345, oI_s, oI_n, L_mn, if_true, if_false, ite_true, ite_false, Bool.false_eq_true, Nat.reduceEqDiff, Nat.reduceLeDiff, Nat.reduceLT, Nat.reduceAdd, Nat.reduceSub, Nat.reduceMul, Nat.le_refl, Nat.lt_irrefl, Nat.not_lt_zero, pk_div]
    refine ⟨fun z => ⟨fun z1 => ?_, fun z1 => ?_⟩, fun z => ?_⟩
    · rw [if_neg (by omega), if_neg (by omega)] at hQ
      have hov := lv_over ht hB z
      have hFn : j3 < lvl T S j2 (F + 1) := by
        rcases hF.2.2 with q | q
        · rw [q]; exact hov
        · exact q
      have hFl := hF.1
      have loop : ∀ b, b ≤ F → s_Ex (998 + 1) 0 mX12_gets 101 [some (.ref 79), none, some (.int (nI j2)), some (.int (nI j3)), none, some (.int (nI (sm (clm T S j1 j2) (T 7 1)))), none, some (.int (nI b))] [] w1 (s_I Q) X := by
        refine n_down ?_ ?_
        · have hl := lvl_b (k := j2) (b := F + 1) ht hB
          apply xX12_gets_101
          unfold vX12_gets_101
          rw [nI_1]
          refine R_levelled hE1 hS1 hB (by omega) (by omega) ?_
          try simp (disch := omega) only [s_Ii, s_Jj, s_Vn, forall_eq, L_m1, nI_add, nI_clamp, nI_leI, nI_ltI, nI_eq, vp_nI, pk_mul, pk_sub, Nat.zero_add, Nat.add_zero, wr_2, Classical.not_not, true_and, and_true, ne_eq, false_implies, true_implies, implies_true, not_true_eq_false, not_false_eq_true, ia_0, ia_1, za_1, ia_2, za_2, ia_3, za_3, ia_4, za_4, ia_5, za_5, ia_6, za_6, ia_7, za_7, ia_8, za_8, ia_9, za_9, ia_10, za_10, ia_11, za_11, ia_12, za_12, ia_13, za_13, ia_14, za_14, ia_15, za_15, ib_0, ib_1, zb_1, ic_0, ic_1, ic_2, ic_3, zc_1, zc_2, zc_3, id_0, id_1, id_2, id_3, zd_1, zd_2, zd_3, L_0, L_1, L_2, L_3, L_4, L_5, L_6, L_7, L_8, L_9, L_10, L_11, L_12, L_13, L_14, L_15, L_16, L_17, L_18, L_19, L_20, L_24, L_27, L_30, L_31, L_32, L_35, L_36, L_40, L_41, L_43, L_44, L_45, L_46, L_47, L_48, L_50, L_54, L_57, L_58, L_59, L_60, L_61, L_62, L_63, L_91, L_93, L_96, L_97, L_98, L_99, L_100, L_103, L_122, L_145, L_150, L_200, L_255, L_600, L_999, L_1000, L_2000, L_9999, L_10000, L_32767, L_12345, oI_s, oI_n, L_mn, if_true, if_false, ite_true, ite_false, Bool.false_eq_true, Nat.reduceEqDiff, Nat.reduceLeDiff, Nat.reduceLT, Nat.reduceAdd, Nat.reduceSub, Nat.reduceMul, Nat.le_refl, Nat.lt_irrefl, Nat.not_lt_zero]
          refine ⟨fun _ => ⟨fun z2 => ?_, fun z2 => ?_⟩, fun z2 => absurd hFn z2⟩
          · rw [Nat.min_eq_right z2] at hQ; exact hQ _ hf1 h79
          · rw [Nat.min_eq_left (by omega)] at hQ; exact hQ _ hf1 h79
        · intro b hb ih
          have hl := lvl_b (k := j2) (b := b + 1) ht hB
          have hle := lvl_mono (T := T) (S := S) (k := j2) (show b + 1 ≤ F by omega)
          have hFF := hF.2.1
          apply xX12_gets_101
          unfold vX12_gets_101
          rw [nI_1]
          refine R_levelled hE1 hS1 hB (by omega) (by omega) ?_
          try simp (disch := omega) only [s_Ii, s_Jj, s_Vn, forall_eq, L_m1, nI_add, nI_clamp, nI_leI, nI_ltI, nI_eq, vp_nI, pk_mul, pk_sub, Nat.zero_add, Nat.add_zero, wr_2, Classical.not_not, true_and, and_true, ne_eq, false_implies, true_implies, implies_true, not_true_eq_false, not_false_eq_true, ia_0, ia_1, za_1, ia_2, za_2, ia_3, za_3, ia_4, za_4, ia_5, za_5, ia_6, za_6, ia_7, za_7, ia_8, za_8, ia_9, za_9, ia_10, za_10, ia_11, za_11, ia_12, za_12, ia_13, za_13, ia_14, za_14, ia_15, za_15, ib_0, ib_1, zb_1, ic_0, ic_1, ic_2, ic_3, zc_1, zc_2, zc_3, id_0, id_1, id_2, id_3, zd_1, zd_2, zd_3, L_0, L_1, L_2, L_3, L_4, L_5, L_6, L_7, L_8, L_9, L_10, L_11, L_12, L_13, L_14, L_15, L_16, L_17, L_18, L_19, L_20, L_24, L_27, L_30, L_31, L_32, L_35, L_36, L_40, L_41, L_43, L_44, L_45, L_46, L_47, L_48, L_50, L_54, L_57, L_58, L_59, L_60, L_61, L_62, L_63, L_91, L_93, L_96, L_97, L_98, L_99, L_100, L_103, L_122, L_145, L_150, L_200, L_255, L_600, L_999, L_1000, L_2000, L_9999, L_10000, L_32767, L_12345, oI_s, oI_n, L_mn, if_true, if_false, ite_true, ite_false, Bool.false_eq_true, Nat.reduceEqDiff, Nat.reduceLeDiff, Nat.reduceLT, Nat.reduceAdd, Nat.reduceSub, Nat.reduceMul, Nat.le_refl, Nat.lt_irrefl, Nat.not_lt_zero]
          exact ⟨fun z2 => absurd z2 (by omega), fun _ => ih⟩
      exact loop 0 (by omega)
    · rw [if_neg (by omega), if_pos z1] at hQ
      rw [pk_div (by omega) (by omega) (by omega)]
      exact ⟨by omega, hQ _ hf1 h79⟩
    · rw [if_pos (by omega)] at hQ
      exact hQ _ hf1 h79
