/-! bits; light that goes to debts by their day -/
theorem bi_or (a b : Nat) : nI a ||| nI b = nI (a ||| b) := by
  apply Int32.toBitVec_inj.1
  show BitVec.ofNat 32 a ||| BitVec.ofNat 32 b = BitVec.ofNat 32 (a ||| b)
  apply BitVec.eq_of_getLsbD_eq
  intro i hi
  simp [hi]
theorem bi_and (a b : Nat) : nI a &&& nI b = nI (a &&& b) := by
  apply Int32.toBitVec_inj.1
  show BitVec.ofNat 32 a &&& BitVec.ofNat 32 b = BitVec.ofNat 32 (a &&& b)
  apply BitVec.eq_of_getLsbD_eq
  intro i hi
  simp [hi]
theorem bi_l : ∀ n, n < 32 → ((nI n &&& nI 31).toBitVec.smod 32).toNat = n := by decide +kernel
theorem bi_shl {a k : Nat} (hk : k < 31) (h : a * 2 ^ k < 2 ^ 32) : nI a <<< (nI k &&& nI 31) = nI (a * 2 ^ k) := pk_shlN _ k (bi_l k (by omega)) h
theorem bi_1 {k : Nat} (hk : k < 31) : nI 1 <<< (nI k &&& nI 31) = nI (2 ^ k) := by
  have : 2 ^ k < 2 ^ 31 := Nat.pow_lt_pow_right (by omega) hk
  rw [bi_shl hk (by omega), Nat.one_mul]
theorem bi_bit {g k : Nat} (hg : g < 2 ^ 31) (hk : k < 31) : (nI g >>> (nI k &&& nI 31)) &&& nI 1 = nI (if g.testBit k then 1 else 0) := by
  rw [pk_shrN hg _ k (bi_l k (by omega)), bi_and, Nat.and_one_is_mod]
  congr 1
  rw [Nat.testBit_eq_decide_div_mod_eq]
  have : g / 2 ^ k % 2 < 2 := Nat.mod_lt _ (by omega)
  split
  · rename_i h; simpa using h
  · rename_i h
    have : ¬ g / 2 ^ k % 2 = 1 := by simpa using h
    omega
theorem bi_lt {a k m : Nat} (ha : a < 2 ^ m) (hk : k < m) : a ||| 2 ^ k < 2 ^ m := Nat.or_lt_two_pow ha (Nat.pow_lt_pow_right (by omega) hk)
/-- a map into itself that takes no value twice takes each -/
theorem pig : ∀ (n : Nat) (f : Nat → Nat), (∀ i, i < n → f i < n) → (∀ i j, i < j → j < n → f i ≠ f j) → ∀ a, a < n → ∃ i, i < n ∧ f i = a := by
  intro n
  induction n with
  | zero => intro f _ _ a ha; omega
  | succ n ih =>
    intro f h1 h2 a ha
    have hn : ∃ i, i < n + 1 ∧ f i = n := by
      refine Classical.byContradiction (fun q => ?_)
      have q1 : ∀ i, i < n + 1 → f i < n := fun i hi => by
        have := h1 i hi
        rcases Nat.lt_or_ge (f i) n with z | z
        · exact z
        · exact absurd ⟨i, hi, by omega⟩ q
      obtain ⟨i, hi, e⟩ := ih f (fun i hi => q1 i (by omega)) (fun i j hij hj => h2 i j hij (by omega)) (f n) (q1 n (by omega))
      exact h2 i n hi (by omega) e
    obtain ⟨i0, hi0, e0⟩ := hn
    by_cases hz : a = n
    · exact ⟨i0, hi0, by omega⟩
    have ne : ∀ i, i < n + 1 → i ≠ i0 → f i ≠ n := fun i hi hne e => by
      rcases Nat.lt_or_gt_of_ne hne with z | z
      · exact h2 i i0 z hi0 (by omega)
      · exact h2 i0 i z hi (by omega)
    obtain ⟨i, hi, e⟩ := ih (fun i => if i = i0 then f n else f i) (fun i hi => by
      show (if i = i0 then f n else f i) < n
      split
      · have := h1 n (by omega)
        have := ne n (by omega) (by omega)
        omega
      · rename_i q
        have := h1 i (by omega)
        have := ne i (by omega) q
        omega) (fun i j hij hj => by
      show (if i = i0 then f n else f i) ≠ (if j = i0 then f n else f j)
      split
      · rename_i q
        rw [if_neg (by omega)]
        exact fun e => h2 j n hj (by omega) e.symm
      · split
        · exact fun e => h2 i n (by omega) (by omega) e
        · exact h2 i j hij (by omega)) a (by omega)
    have e' : (if i = i0 then f n else f i) = a := e
    split at e'
    · exact ⟨n, by omega, e'⟩
    · exact ⟨i, by omega, e'⟩
def pam (T : Tb) (S : Nat → Nat) (d : Nat) : Nat := min (S d) (S (50 + cl T d))
def pa (T : Tb) (β : Nat → Nat) (S : Nat → Nat) : Nat → Nat → Nat
  | 0 => S
  | i + 1 => pyS T (pa T β S i) (β i) (pam T (pa T β S i) (β i))
/-- parts paid -/
def pp (T : Tb) (β : Nat → Nat) (S : Nat → Nat) : Nat → Nat
  | 0 => 0
  | i + 1 => pp T β S i + pam T (pa T β S i) (β i)
theorem pyS_0 (T : Tb) (S : Nat → Nat) (d : Nat) : pyS T S d 0 = S := by
  unfold pyS
  simp only [Nat.sub_zero, Nat.add_zero]
  rw [up_id, up_id, up_id, up_id, up_id]
theorem py_o {T : Tb} {S : Nat → Nat} {d m k : Nat} (h1 : k ≠ 50 + cl T d) (h2 : k ≠ d) (h3 : k ≠ 30 + d) (h4 : k ≠ 40 + d) (h5 : k ≠ 58 + cl T d) : pyS T S d m k = S k := by
  unfold pyS
  rw [up_n h5, up_n h4, up_n h3, up_n h2, up_n h1]
theorem py_d {T : Tb} {S : Nat → Nat} {d m : Nat} (hd : d < 10) : pyS T S d m d = S d - m := by
  unfold pyS
  rw [up_n (by omega), up_n (by omega), up_n (by omega), up_s]
theorem py_l {T : Tb} {S : Nat → Nat} {d m : Nat} (hd : d < 10) (hc : cl T d < 4) : pyS T S d m (50 + cl T d) = S (50 + cl T d) - m := by
  unfold pyS
  rw [up_n (by omega), up_n (by omega), up_n (by omega), up_n (by omega), up_s]
theorem rb_py {T : Tb} {S : Nat → Nat} {d m : Nat} (ht : tb T) (h : rb T S) (hd : d < T 7 1) : rb T (pyS T S d m) := by
  have hb := tb_nd ht
  have hc := tb_cl ht hd
  refine ⟨fun i hi => ?_, fun k hk => ?_, ?_⟩
  · have := h.1 i hi
    rw [py_o (k := 10 + i) (by omega) (by omega) (by omega) (by omega) (by omega), py_o (k := 20 + i) (by omega) (by omega) (by omega) (by omega) (by omega)]
    by_cases e : i = d
    · subst e
      rw [py_d (by omega)]
      omega
    · rw [py_o (by omega) e (by omega) (by omega) (by omega)]
      exact this
  · have := h.2.1 k hk
    rw [py_o (k := 54 + k) (by omega) (by omega) (by omega) (by omega) (by omega)]
    by_cases e : k = cl T d
    · subst e
      rw [py_l (by omega) hc]
      omega
    · rw [py_o (by omega) (by omega) (by omega) (by omega) (by omega)]
      exact this
  · rw [py_o (by omega) (by omega) (by omega) (by omega) (by omega)]
    exact h.2.2
theorem rb_pa {T : Tb} {β S : Nat → Nat} (ht : tb T) (hβ : ordered T β) (h : rb T S) : ∀ i, i ≤ T 7 1 → rb T (pa T β S i) := by
  intro i
  induction i with
  | zero => intro _; exact h
  | succ i ih => intro hi; exact rb_py ht (ih (by omega)) (hβ.1 i (by omega))
theorem pa_62 {T : Tb} {β S : Nat → Nat} (ht : tb T) (hβ : ordered T β) : ∀ i, i ≤ T 7 1 → pa T β S i 62 = S 62 := by
  intro i
  induction i with
  | zero => intro _; rfl
  | succ i ih =>
    intro hi
    have hb := tb_nd ht
    have hc := tb_cl ht (hβ.1 i (by omega))
    have hd := hβ.1 i (by omega)
    unfold pa
    rw [py_o (by omega) (by omega) (by omega) (by omega) (by omega), ih (by omega)]
/-- bounds behind a dusk -/
theorem ltS_i {T : Tb} {S : Nat → Nat} {e k : Nat} : ∀ i, k < i → i ≤ 4 → ltS T S e i (50 + k) = m_light T e k := by
  intro i
  induction i with
  | zero => intro h _; omega
  | succ i ih =>
    intro h hi
    unfold ltS
    by_cases q : k = i
    · subst q; rw [up_s]
    · rw [up_n (by omega), ih (by omega) (by omega)]
theorem psI_i {T : Tb} {C : Nat → Nat} {n : Nat} {S : Nat → Nat} {d : Nat} : ∀ i, d < i → i ≤ 10 → psI T C n S i d = ow T C n S d ∧ psI T C n S i (20 + d) = lt1 T S d ∧ psI T C n S i (40 + d) = 0 := by
  intro i
  induction i with
  | zero => intro h _; omega
  | succ i ih =>
    intro h hi
    unfold psI
    by_cases q : d = i
    · subst q
      refine ⟨?_, ?_, ?_⟩
      · rw [up_n (by omega), up_n (by omega), up_s]
      · rw [up_n (by omega), up_s]
      · rw [up_s]
    · obtain ⟨h1, h2, h3⟩ := ih (by omega) (by omega)
      refine ⟨?_, ?_, ?_⟩
      · rw [up_n (by omega), up_n (by omega), up_n (by omega), h1]
      · rw [up_n (by omega), up_n (by omega), up_n (by omega), h2]
      · rw [up_n (by omega), up_n (by omega), up_n (by omega), h3]
theorem ps_d {T : Tb} {C : Nat → Nat} {n : Nat} {S : Nat → Nat} (ht : tb T) {d : Nat} (hd : d < T 7 1) : psS T C n S d = ow T C n S d ∧ psS T C n S (10 + d) = S (10 + d) ∧ psS T C n S (20 + d) = lt1 T S d ∧ psS T C n S (40 + d) = 0 := by
  have hb := tb_nd ht
  obtain ⟨h1, h2, h3⟩ := psI_i (T := T) (C := C) (n := n) (S := S) (T 7 1) hd hb
  unfold psS
  rw [ltS_o _ (by omega) (by omega), ltS_o _ (by omega) (by omega), ltS_o _ (by omega) (by omega), ltS_o _ (by omega) (by omega), up_n (by omega), up_n (by omega), up_n (by omega), up_n (by omega), h1, h2, h3, psI_o _ hb (by omega)]
  exact ⟨rfl, rfl, rfl, rfl⟩
theorem ps_k {T : Tb} {C : Nat → Nat} {n : Nat} {S : Nat → Nat} (ht : tb T) {k : Nat} (hk : k < 4) : psS T C n S (50 + k) = m_light T (S 62 + 1) k ∧ psS T C n S (54 + k) = S (54 + k) ∧ psS T C n S (58 + k) = S (58 + k) := by
  have hb := tb_nd ht
  unfold psS
  rw [ltS_i _ hk (by omega), ltS_o _ (by omega) (by omega), ltS_o _ (by omega) (by omega), up_n (by omega), up_n (by omega), psI_o _ hb (by omega), psI_o _ hb (by omega)]
  exact ⟨rfl, rfl, rfl⟩
theorem ps_62 {T : Tb} {C : Nat → Nat} {n : Nat} {S : Nat → Nat} : psS T C n S 62 = S 62 + 1 := by
  unfold psS
  rw [ltS_o _ (by omega) (by omega), up_s]
theorem rb_ps {T : Tb} {C : Nat → Nat} {n : Nat} {S : Nat → Nat} (ht : tb T) (h : rb T S) (h62 : S 62 < 10000) : rb T (psS T C n S) := by
  refine ⟨fun d hd => ?_, fun k hk => ?_, ?_⟩
  · obtain ⟨h1, h2, h3, -⟩ := ps_d (C := C) (n := n) (S := S) ht hd
    have := h.1 d hd
    rw [h1, h2, h3]
    refine ⟨ow_le, this.2.1, ?_⟩
    unfold lt1
    split <;> omega
  · obtain ⟨h1, h2, -⟩ := ps_k (C := C) (n := n) (S := S) ht hk
    have := h.2.1 k hk
    have := m_light_le ht (S 62 + 1) hk
    rw [h1, h2]
    omega
  · rw [ps_62]; omega
theorem K_payByTerm {d o l n ro : Nat} {T : Tb} {β C S : Nat → Nat} {w : q_Sm} {Q : Int32 → q_Sm → Prop} {X : s_Xo} (hE : KE o l T β C n w) (ho : ro = 56 ∨ ro = 68) (hS : cR (ro + 1) S w) (hB : rb T S)
    (h : ∀ u, fr (aR ro) w u → cR (ro + 1) (pa T β S (T 7 1)) u → Q (nI (pp T β S (T 7 1))) u) : s_EvI (d + 3) 0 mX6_payByTerm w [.ref ro, .ref o] Q X := by
  have hb := tb_nd hE.2.2.1
  have hoo := hE.1
  have loop : ∀ i, i ≤ T 7 1 → ∀ u, fr (aR ro) w u → cR (ro + 1) (pa T β S i) u → s_Ex (d + 3) 0 mX6_payByTerm 4 [some (.ref ro), some (.ref o), some (.int (nI (pp T β S i))), some (.int (nI i)), none, none] [] u (s_I Q) X := by
    refine n_down ?_ ?_
    · intro u hu hr
      apply xX6_payByTerm_4
      unfold vX6_payByTerm_4
      try simp (disch := omega) only [s_Ii, s_Jj, s_Vn, forall_eq, L_m1, nI_add, nI_clamp, nI_leI, nI_ltI, nI_eq, vp_nI, pk_mul, pk_sub, Nat.zero_add, Nat.add_zero, wr_2, Classical.not_not, true_and, and_true, ne_eq, false_implies, true_implies, implies_true, not_true_eq_false, not_false_eq_true, ia_0, ia_1, za_1, ia_2, za_2, ia_3, za_3, ia_4, za_4, ia_5, za_5, ia_6, za_6, ia_7, za_7, ia_8, za_8, ia_9, za_9, ia_10, za_10, ia_11, za_11, ia_12, za_12, ia_13, za_13, ia_14, za_14, ia_15, za_15, ib_0, ib_1, zb_1, ic_0, ic_1, ic_2, ic_3, zc_1, zc_2, zc_3, id_0, id_1, id_2, id_3, zd_1, zd_2, zd_3, L_0, L_1, L_2, L_3, L_4, L_5, L_6, L_7, L_8, L_9, L_10, L_11, L_12, L_13, L_14, L_15, L_16, L_17, L_18, L_19, L_20, L_24, L_27, L_30, L_31, L_32, L_35, L_36, L_40, L_41, L_43, L_44, L_45, L_46, L_47, L_48, L_50, L_54, L_57, L_58, L_59, L_60, L_61, L_62, L_63, L_91, L_93, L_96, L_97, L_98, L_99, L_100, L_103, L_122, L_145, L_150, L_200, L_255, L_600, L_999, L_1000, L_2000, L_9999, L_10000, L_32767, L_12345, (hE.f hu (aR_lo ho)).nd]
      exact ⟨fun _ => h u hu hr, fun z => absurd (Nat.le_refl _) z⟩
    · intro i hi ih u hu hr
      have hEu := hE.f hu (aR_lo ho)
      have hd := hE.ord.1 i hi
      have hc := tb_cl hE.2.2.1 hd
      have hBi := rb_pa hE.2.2.1 hE.ord hB i (by omega)
      have b1 := hBi.1 _ hd
      have b2 := rb_left hE.2.2.1 hBi hc
      apply xX6_payByTerm_4
      unfold vX6_payByTerm_4
      try simp (disch := omega) only [s_Ii, s_Jj, s_Vn, forall_eq, L_m1, nI_add, nI_clamp, nI_leI, nI_ltI, nI_eq, vp_nI, pk_mul, pk_sub, Nat.zero_add, Nat.add_zero, wr_2, Classical.not_not, true_and, and_true, ne_eq, false_implies, true_implies, implies_true, not_true_eq_false, not_false_eq_true, ia_0, ia_1, za_1, ia_2, za_2, ia_3, za_3, ia_4, za_4, ia_5, za_5, ia_6, za_6, ia_7, za_7, ia_8, za_8, ia_9, za_9, ia_10, za_10, ia_11, za_11, ia_12, za_12, ia_13, za_13, ia_14, za_14, ia_15, za_15, ib_0, ib_1, zb_1, ic_0, ic_1, ic_2, ic_3, zc_1, zc_2, zc_3, id_0, id_1, id_2, id_3, zd_1, zd_2, zd_3, L_0, L_1, L_2, L_3, L_4, L_5, L_6, L_7, L_8, L_9, L_10, L_11, L_12, L_13, L_14, L_15, L_16, L_17, L_18, L_19, L_20, L_24, L_27, L_30, L_31, L_32, L_35, L_36, L_40, L_41, L_43, L_44, L_45, L_46, L_47, L_48, L_50, L_54, L_57, L_58, L_59, L_60, L_61, L_62, L_63, L_91, L_93, L_96, L_97, L_98, L_99, L_100, L_103, L_122, L_145, L_150, L_200, L_255, L_600, L_999, L_1000, L_2000, L_9999, L_10000, L_32767, L_12345, hEu.nd, hEu.by hi, hEu.col hd]
      refine ⟨fun z => absurd z (by omega), fun _ => ⟨by omega, K_owed ho hr (by omega) ?_⟩⟩
      try simp (disch := omega) only [s_Ii, s_Jj, s_Vn, forall_eq, L_m1, nI_add, nI_clamp, nI_leI, nI_ltI, nI_eq, vp_nI, pk_mul, pk_sub, Nat.zero_add, Nat.add_zero, wr_2, Classical.not_not, true_and, and_true, ne_eq, false_implies, true_implies, implies_true, not_true_eq_false, not_false_eq_true, ia_0, ia_1, za_1, ia_2, za_2, ia_3, za_3, ia_4, za_4, ia_5, za_5, ia_6, za_6, ia_7, za_7, ia_8, za_8, ia_9, za_9, ia_10, za_10, ia_11, za_11, ia_12, za_12, ia_13, za_13, ia_14, za_14, ia_15, za_15, ib_0, ib_1, zb_1, ic_0, ic_1, ic_2, ic_3, zc_1, zc_2, zc_3, id_0, id_1, id_2, id_3, zd_1, zd_2, zd_3, L_0, L_1, L_2, L_3, L_4, L_5, L_6, L_7, L_8, L_9, L_10, L_11, L_12, L_13, L_14, L_15, L_16, L_17, L_18, L_19, L_20, L_24, L_27, L_30, L_31, L_32, L_35, L_36, L_40, L_41, L_43, L_44, L_45, L_46, L_47, L_48, L_50, L_54, L_57, L_58, L_59, L_60, L_61, L_62, L_63, L_91, L_93, L_96, L_97, L_98, L_99, L_100, L_103, L_122, L_145, L_150, L_200, L_255, L_600, L_999, L_1000, L_2000, L_9999, L_10000, L_32767, L_12345, hEu.nd, hEu.by hi, hEu.col hd]
      refine ⟨by omega, K_unspent ho hr hc (k_minN (by omega) (by omega) ?_)⟩
      try simp (disch := omega) only [s_Ii, s_Jj, s_Vn, forall_eq, L_m1, nI_add, nI_clamp, nI_leI, nI_ltI, nI_eq, vp_nI, pk_mul, pk_sub, Nat.zero_add, Nat.add_zero, wr_2, Classical.not_not, true_and, and_true, ne_eq, false_implies, true_implies, implies_true, not_true_eq_false, not_false_eq_true, ia_0, ia_1, za_1, ia_2, za_2, ia_3, za_3, ia_4, za_4, ia_5, za_5, ia_6, za_6, ia_7, za_7, ia_8, za_8, ia_9, za_9, ia_10, za_10, ia_11, za_11, ia_12, za_12, ia_13, za_13, ia_14, za_14, ia_15, za_15, ib_0, ib_1, zb_1, ic_0, ic_1, ic_2, ic_3, zc_1, zc_2, zc_3, id_0, id_1, id_2, id_3, zd_1, zd_2, zd_3, L_0, L_1, L_2, L_3, L_4, L_5, L_6, L_7, L_8, L_9, L_10, L_11, L_12, L_13, L_14, L_15, L_16, L_17, L_18, L_19, L_20, L_24, L_27, L_30, L_31, L_32, L_35, L_36, L_40, L_41, L_43, L_44, L_45, L_46, L_47, L_48, L_50, L_54, L_57, L_58, L_59, L_60, L_61, L_62, L_63, L_91, L_93, L_96, L_97, L_98, L_99, L_100, L_103, L_122, L_145, L_150, L_200, L_255, L_600, L_999, L_1000, L_2000, L_9999, L_10000, L_32767, L_12345]
      have e1 : min (pa T β S i (β i)) (pa T β S i (50 + cl T (β i))) = pam T (pa T β S i) (β i) := rfl
      rw [e1]
      have e2 : pam T (pa T β S i) (β i) ≤ 139 := by unfold pam; omega
      refine K_pay hEu ho hr hd ⟨b1.1, b2⟩ (by omega) (fun q u2 hu2 hr2 => ?_) (fun q => ?_)
      · try simp (disch := omega) only [s_Ii, s_Jj, s_Vn, forall_eq, L_m1, nI_add, nI_clamp, nI_leI, nI_ltI, nI_eq, vp_nI, pk_mul, pk_sub, Nat.zero_add, Nat.add_zero, wr_2, Classical.not_not, true_and, and_true, ne_eq, false_implies, true_implies, implies_true, not_true_eq_false, not_false_eq_true, ia_0, ia_1, za_1, ia_2, za_2, ia_3, za_3, ia_4, za_4, ia_5, za_5, ia_6, za_6, ia_7, za_7, ia_8, za_8, ia_9, za_9, ia_10, za_10, ia_11, za_11, ia_12, za_12, ia_13, za_13, ia_14, za_14, ia_15, za_15, ib_0, ib_1, zb_1, ic_0, ic_1, ic_2, ic_3, zc_1, zc_2, zc_3, id_0, id_1, id_2, id_3, zd_1, zd_2, zd_3, L_0, L_1, L_2, L_3, L_4, L_5, L_6, L_7, L_8, L_9, L_10, L_11, L_12, L_13, L_14, L_15, L_16, L_17, L_18, L_19, L_20, L_24, L_27, L_30, L_31, L_32, L_35, L_36, L_40, L_41, L_43, L_44, L_45, L_46, L_47, L_48, L_50, L_54, L_57, L_58, L_59, L_60, L_61, L_62, L_63, L_91, L_93, L_96, L_97, L_98, L_99, L_100, L_103, L_122, L_145, L_150, L_200, L_255, L_600, L_999, L_1000, L_2000, L_9999, L_10000, L_32767, L_12345]
        refine ⟨fun z => absurd z (by omega), fun _ => ih u2 (hu.trans hu2) hr2⟩
      · have e0 : pam T (pa T β S i) (β i) = 0 := by
          refine Classical.byContradiction (fun z => q ⟨z, ?_, ?_⟩) <;> unfold pam <;> omega
        try simp (disch := omega) only [s_Ii, s_Jj, s_Vn, forall_eq, L_m1, nI_add, nI_clamp, nI_leI, nI_ltI, nI_eq, vp_nI, pk_mul, pk_sub, Nat.zero_add, Nat.add_zero, wr_2, Classical.not_not, true_and, and_true, ne_eq, false_implies, true_implies, implies_true, not_true_eq_false, not_false_eq_true, ia_0, ia_1, za_1, ia_2, za_2, ia_3, za_3, ia_4, za_4, ia_5, za_5, ia_6, za_6, ia_7, za_7, ia_8, za_8, ia_9, za_9, ia_10, za_10, ia_11, za_11, ia_12, za_12, ia_13, za_13, ia_14, za_14, ia_15, za_15, ib_0, ib_1, zb_1, ic_0, ic_1, ic_2, ic_3, zc_1, zc_2, zc_3, id_0, id_1, id_2, id_3, zd_1, zd_2, zd_3, L_0, L_1, L_2, L_3, L_4, L_5, L_6, L_7, L_8, L_9, L_10, L_11, L_12, L_13, L_14, L_15, L_16, L_17, L_18, L_19, L_20, L_24, L_27, L_30, L_31, L_32, L_35, L_36, L_40, L_41, L_43, L_44, L_45, L_46, L_47, L_48, L_50, L_54, L_57, L_58, L_59, L_60, L_61, L_62, L_63, L_91, L_93, L_96, L_97, L_98, L_99, L_100, L_103, L_122, L_145, L_150, L_200, L_255, L_600, L_999, L_1000, L_2000, L_9999, L_10000, L_32767, L_12345]
        have e3 : pp T β S (i + 1) = pp T β S i := by show pp T β S i + pam T (pa T β S i) (β i) = _; rw [e0]; rfl
        have e4 : pa T β S (i + 1) = pa T β S i := by
          show pyS T (pa T β S i) (β i) (pam T (pa T β S i) (β i)) = _
          rw [e0, pyS_0]
        rw [← e3]
        exact ih u hu (by rw [e4]; exact hr)
  apply eX6_payByTerm
  unfold vX6_payByTerm_0
  exact loop 0 (Nat.zero_le _) w (fr.refl _ _) hS
