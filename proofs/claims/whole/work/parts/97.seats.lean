/-! chairs of the class -/
theorem ch_mx : ∀ s, s < 20 → ∀ r, r < 20 → (if (0 : Int32) < nI s - nI r then nI s - nI r else 0) = nI (s - r) := by decide +kernel
theorem ch_dec : ∀ k, k < 8 → nI (k + 1) + (-1) = nI k := by decide +kernel
theorem ch_sub1 : ∀ k, k < 8 → nI (k + 1) - 1 = nI k := by decide +kernel
theorem K_firstSeat {d o l n q : Nat} {T : Tb} {β C : Nat → Nat} {w : q_Sm} {Q : Int32 → q_Sm → Prop} {X : s_Xo} (hE : KE o l T β C n w) (hq : q < 1000) (h : Q (oI (fs T q)) w) : s_EvI (d + 1) 0 mX2_firstSeat w [.ref o, .int (nI q)] Q X := by
  have ht := hE.2.2.1
  have hnc := tb_nc ht
  have hoo := hE.1
  have loop : ∀ c, c ≤ T 7 0 → s_Ex (d + 1) 0 mX2_firstSeat 4 [some (.ref o), some (.int (nI q)), some (.int (oI (fsn T q c))), some (.int (nI c))] [] w (s_I Q) X := by
    refine n_down ?_ ?_
    · apply xX2_firstSeat_4
      unfold vX2_firstSeat_4
      rw [hE.nc]
      try simp (disch := omega) only [s_Ii, s_Jj, s_Vn, forall_eq, L_m1, nI_add, nI_clamp, nI_leI, nI_ltI, nI_eq, vp_nI, pk_mul, pk_sub, Nat.zero_add, Nat.add_zero, wr_2, Classical.not_not, true_and, and_true, ne_eq, false_implies, true_implies, implies_true, not_true_eq_false, not_false_eq_true, ia_0, ia_1, za_1, ia_2, za_2, ia_3, za_3, ia_4, za_4, ia_5, za_5, ia_6, za_6, ia_7, za_7, ia_8, za_8, ia_9, za_9, ia_10, za_10, ia_11, za_11, ia_12, za_12, ia_13, za_13, ia_14, za_14, ia_15, za_15, ib_0, ib_1, zb_1, ic_0, ic_1, ic_2, ic_3, zc_1, zc_2, zc_3, id_0, id_1, id_2, id_3, zd_1, zd_2, zd_3, L_0, L_1, L_2, L_3, L_4, L_5, L_6, L_7, L_8, L_9, L_10, L_11, L_12, L_13, L_14, L_15, L_16, L_17, L_18, L_19, L_20, L_24, L_27, L_30, L_31, L_32, L_35, L_36, L_40, L_41, L_43, L_44, L_45, L_46, L_47, L_48, L_50, L_54, L_57, L_58, L_59, L_60, L_61, L_62, L_63, L_91, L_93, L_96, L_97, L_98, L_99, L_100, L_103, L_122, L_145, L_150, L_200, L_255, L_600, L_999, L_1000, L_2000, L_9999, L_10000, L_32767, L_12345, oI_s, oI_n, L_mn, if_true, if_false, ite_true, ite_false, Bool.false_eq_true, Nat.reduceEqDiff, Nat.reduceLeDiff, Nat.reduceLT, Nat.reduceAdd, Nat.reduceSub, Nat.reduceMul, Nat.le_refl, Nat.lt_irrefl, Nat.not_lt_zero]
      exact h
    · intro c hc ih
      have hcell : w.1 (o + 1) c = nI (sc T c) := hE.cell hc
      have hlt := sc_lt ht hc
      have ec : Int32.toNatClampNeg (nI c) = c := nI_clamp (by omega)
      apply xX2_firstSeat_4
      unfold vX2_firstSeat_4
      unfold fsn at ih
      simp only [ec, hE.nc, hcell, nI_1 c]
      cases z : fsn T q c with
      | none =>
        rw [z] at ih
        try simp (disch := omega) only [s_Ii, s_Jj, s_Vn, forall_eq, L_m1, nI_add, nI_clamp, nI_leI, nI_ltI, nI_eq, vp_nI, pk_mul, pk_sub, Nat.zero_add, Nat.add_zero, wr_2, Classical.not_not, true_and, and_true, ne_eq, false_implies, true_implies, implies_true, not_true_eq_false, not_false_eq_true, ia_0, ia_1, za_1, ia_2, za_2, ia_3, za_3, ia_4, za_4, ia_5, za_5, ia_6, za_6, ia_7, za_7, ia_8, za_8, ia_9, za_9, ia_10, za_10, ia_11, za_11, ia_12, za_12, ia_13, za_13, ia_14, za_14, ia_15, za_15, ib_0, ib_1, zb_1, ic_0, ic_1, ic_2, ic_3, zc_1, zc_2, zc_3, id_0, id_1, id_2, id_3, zd_1, zd_2, zd_3, L_0, L_1, L_2, L_3, L_4, L_5, L_6, L_7, L_8, L_9, L_10, L_11, L_12, L_13, L_14, L_15, L_16, L_17, L_18, L_19, L_20, L_24, L_27, L_30, L_31, L_32, L_35, L_36, L_40, L_41, L_43, L_44, L_45, L_46, L_47, L_48, L_50, L_54, L_57, L_58, L_59, L_60, L_61, L_62, L_63, L_91, L_93, L_96, L_97, L_98, L_99, L_100, L_103, L_122, L_145, L_150, L_200, L_255, L_600, L_999, L_1000, L_2000, L_9999, L_10000, L_32767, L_12345, oI_s, oI_n, L_mn, if_true, if_false, ite_true, ite_false, Bool.false_eq_true, Nat.reduceEqDiff, Nat.reduceLeDiff, Nat.reduceLT, Nat.reduceAdd, Nat.reduceSub, Nat.reduceMul, Nat.le_refl, Nat.lt_irrefl, Nat.not_lt_zero]
        refine ⟨fun k => absurd k (by omega), fun _ => ⟨by omega, fun g => ?_, fun g => ⟨by omega, ?_⟩⟩⟩
        · rw [if_neg (fun k => by have := k.1; omega)] at ih
          exact ih
        · rw [if_pos ⟨by omega, fun s hs => by simp at hs⟩] at ih
          exact ih
      | some s =>
        rw [z] at ih
        have hs : s < 20 := by
          have := fsn_s (T := T) (q := q) c
          rw [z] at this
          obtain ⟨_, ⟨c1, h1, h2⟩, _⟩ := this
          have := sc_lt ht (c := c1) (by omega)
          omega
        try simp (disch := omega) only [s_Ii, s_Jj, s_Vn, forall_eq, L_m1, nI_add, nI_clamp, nI_leI, nI_ltI, nI_eq, vp_nI, pk_mul, pk_sub, Nat.zero_add, Nat.add_zero, wr_2, Classical.not_not, true_and, and_true, ne_eq, false_implies, true_implies, implies_true, not_true_eq_false, not_false_eq_true, ia_0, ia_1, za_1, ia_2, za_2, ia_3, za_3, ia_4, za_4, ia_5, za_5, ia_6, za_6, ia_7, za_7, ia_8, za_8, ia_9, za_9, ia_10, za_10, ia_11, za_11, ia_12, za_12, ia_13, za_13, ia_14, za_14, ia_15, za_15, ib_0, ib_1, zb_1, ic_0, ic_1, ic_2, ic_3, zc_1, zc_2, zc_3, id_0, id_1, id_2, id_3, zd_1, zd_2, zd_3, L_0, L_1, L_2, L_3, L_4, L_5, L_6, L_7, L_8, L_9, L_10, L_11, L_12, L_13, L_14, L_15, L_16, L_17, L_18, L_19, L_20, L_24, L_27, L_30, L_31, L_32, L_35, L_36, L_40, L_41, L_43, L_44, L_45, L_46, L_47, L_48, L_50, L_54, L_57, L_58, L_59, L_60, L_61, L_62, L_63, L_91, L_93, L_96, L_97, L_98, L_99, L_100, L_103, L_122, L_145, L_150, L_200, L_255, L_600, L_999, L_1000, L_2000, L_9999, L_10000, L_32767, L_12345, oI_s, oI_n, L_mn, if_true, if_false, ite_true, ite_false, Bool.false_eq_true, Nat.reduceEqDiff, Nat.reduceLeDiff, Nat.reduceLT, Nat.reduceAdd, Nat.reduceSub, Nat.reduceMul, Nat.le_refl, Nat.lt_irrefl, Nat.not_lt_zero]
        refine ⟨fun k => absurd k (by omega), fun _ => ⟨by omega, fun g => ?_, fun g => ⟨by omega, fun g2 => ?_, fun g2 => ?_⟩⟩⟩
        · rw [if_neg (fun k => by have := k.1; omega)] at ih
          exact ih
        · rw [if_neg (fun k => by have := k.2 s rfl; omega)] at ih
          exact ih
        · rw [if_pos ⟨by omega, fun s' hs' => by simp at hs'; omega⟩] at ih
          exact ⟨by omega, ih⟩
  apply eX2_firstSeat
  unfold vX2_firstSeat_0
  exact loop 0 (by omega)
theorem fs_lt {T : Tb} {q s : Nat} (ht : tb T) (h : fs T q = some s) : s < 20 := by
  obtain ⟨_, ⟨c, h1, h2⟩, _⟩ := fs_s h
  have := sc_lt ht h1
  omega
theorem K_fewest {d l n q r : Nat} {T : Tb} {β C : Nat → Nat} {w : q_Sm} {Q : Int32 → q_Sm → Prop} {X : s_Xo} (hE : KE w.2.2.1 l T β C n w) (hq : q < 1000) (hr : r < 20) (h : Q (nI (gC T r q)) w) : s_EvI (d + 2) 0 mX11_fewestChairs w [.ref 1, .int (nI q), .int (nI r)] Q X := by
  have ht := hE.2.2.1
  have hid : q_id 116 2 w.2.2.1 := ia_0 hE.1
  have loop : ∀ j m q', m + j = 6 → gC T r q = gF T r j q' + m → s_Ex (d + 2) 0 mX11_fewestChairs 12 [some (.ref 1), none, some (.int (nI r)), some (.int (nI m)), some (.int (oI (fs T q')))] [] w (s_I Q) X := by
    intro j
    induction j with
    | zero =>
      intro m q' hm hg
      have hm : m = 6 := by omega
      subst hm
      rw [hg, gF] at h
      apply xX11_fewestChairs_12
      unfold vX11_fewestChairs_12
      rw [s_Ii]
      exact ⟨fun _ => h, fun _ => ⟨fun _ => h, fun z => absurd (by decide) z⟩⟩
    | succ j ih =>
      intro m q' hm hg
      rw [gF] at hg
      apply xX11_fewestChairs_12
      unfold vX11_fewestChairs_12
      cases z : fs T q' with
      | none =>
        rw [z] at hg
        have hg : gC T r q = 0 + m := hg
        rw [hg, Nat.zero_add] at h
        rw [s_Ii]
        exact ⟨fun _ => h, fun z => absurd rfl z⟩
      | some s =>
        rw [z] at hg
        have hg : gC T r q = gF T r j (s + 2 * r + 1) + 1 + m := hg
        have hs := fs_lt ht z
        have e1 : nI s + 2 * nI r + 1 = nI (s + 2 * r + 1) := by try simp (disch := omega) only [s_Ii, s_Jj, s_Vn, forall_eq, L_m1, nI_add, nI_clamp, nI_leI, nI_ltI, nI_eq, vp_nI, pk_mul, pk_sub, Nat.zero_add, Nat.add_zero, wr_2, Classical.not_not, true_and, and_true, ne_eq, false_implies, true_implies, implies_true, not_true_eq_false, not_false_eq_true, ia_0, ia_1, za_1, ia_2, za_2, ia_3, za_3, ia_4, za_4, ia_5, za_5, ia_6, za_6, ia_7, za_7, ia_8, za_8, ia_9, za_9, ia_10, za_10, ia_11, za_11, ia_12, za_12, ia_13, za_13, ia_14, za_14, ia_15, za_15, ib_0, ib_1, zb_1, ic_0, ic_1, ic_2, ic_3, zc_1, zc_2, zc_3, id_0, id_1, id_2, id_3, zd_1, zd_2, zd_3, L_0, L_1, L_2, L_3, L_4, L_5, L_6, L_7, L_8, L_9, L_10, L_11, L_12, L_13, L_14, L_15, L_16, L_17, L_18, L_19, L_20, L_24, L_27, L_30, L_31, L_32, L_35, L_36, L_40, L_41, L_43, L_44, L_45, L_46, L_47, L_48, L_50, L_54, L_57, L_58, L_59, L_60, L_61, L_62, L_63, L_91, L_93, L_96, L_97, L_98, L_99, L_100, L_103, L_122, L_145, L_150, L_200, L_255, L_600, L_999, L_1000, L_2000, L_9999, L_10000, L_32767, L_12345, oI_s, oI_n, L_mn, if_true, if_false, ite_true, ite_false, Bool.false_eq_true, Nat.reduceEqDiff, Nat.reduceLeDiff, Nat.reduceLT, Nat.reduceAdd, Nat.reduceSub, Nat.reduceMul, Nat.le_refl, Nat.lt_irrefl, Nat.not_lt_zero]
        have e6 : ¬ ((6 : Int32) ≤ nI m) := by
          try simp (disch := omega) only [s_Ii, s_Jj, s_Vn, forall_eq, L_m1, nI_add, nI_clamp, nI_leI, nI_ltI, nI_eq, vp_nI, pk_mul, pk_sub, Nat.zero_add, Nat.add_zero, wr_2, Classical.not_not, true_and, and_true, ne_eq, false_implies, true_implies, implies_true, not_true_eq_false, not_false_eq_true, ia_0, ia_1, za_1, ia_2, za_2, ia_3, za_3, ia_4, za_4, ia_5, za_5, ia_6, za_6, ia_7, za_7, ia_8, za_8, ia_9, za_9, ia_10, za_10, ia_11, za_11, ia_12, za_12, ia_13, za_13, ia_14, za_14, ia_15, za_15, ib_0, ib_1, zb_1, ic_0, ic_1, ic_2, ic_3, zc_1, zc_2, zc_3, id_0, id_1, id_2, id_3, zd_1, zd_2, zd_3, L_0, L_1, L_2, L_3, L_4, L_5, L_6, L_7, L_8, L_9, L_10, L_11, L_12, L_13, L_14, L_15, L_16, L_17, L_18, L_19, L_20, L_24, L_27, L_30, L_31, L_32, L_35, L_36, L_40, L_41, L_43, L_44, L_45, L_46, L_47, L_48, L_50, L_54, L_57, L_58, L_59, L_60, L_61, L_62, L_63, L_91, L_93, L_96, L_97, L_98, L_99, L_100, L_103, L_122, L_145, L_150, L_200, L_255, L_600, L_999, L_1000, L_2000, L_9999, L_10000, L_32767, L_12345, oI_s, oI_n, L_mn, if_true, if_false, ite_true, ite_false, Bool.false_eq_true, Nat.reduceEqDiff, Nat.reduceLeDiff, Nat.reduceLT, Nat.reduceAdd, Nat.reduceSub, Nat.reduceMul, Nat.le_refl, Nat.lt_irrefl, Nat.not_lt_zero]
          omega
        rw [oI_s, e1, nI_1 m]
        refine ⟨fun z => ((oI_n (show s < 2 ^ 31 by omega)).mp z).elim, fun _ => ⟨fun z => absurd z e6, fun _ => ⟨hid, K_firstSeat hE (by omega) ?_⟩⟩⟩
        exact ih (m + 1) (s + 2 * r + 1) (by omega) (by omega)
  apply eX11_fewestChairs
  unfold vX11_fewestChairs_0
  exact ⟨hid, K_firstSeat hE hq (loop 6 0 q (by omega) rfl)⟩
theorem gr_n {T : Tb} {r k b q : Nat} (h : fs T q = none) : gr T r k b q = b := by
  cases k with
  | zero => rfl
  | succ k => rw [gr, h]
theorem K_firstChairs {d l n r : Nat} {T : Tb} {β C : Nat → Nat} {w : q_Sm} {Q : Int32 → q_Sm → Prop} {X : s_Xo} (hE : KE w.2.2.1 l T β C n w) (hr : r < 20) (h : Q (nI (gr T r (gC T r 0) 0 0)) w) : s_EvI (d + 3) 0 mX11_firstChairs w [.ref 1, .int (nI r)] Q X := by
  have ht := hE.2.2.1
  have hnc := tb_nc ht
  have hid : q_id 116 2 w.2.2.1 := ia_0 hE.1
  have hg6 : gC T r 0 ≤ 6 := by
    have h1 := gF_le (T := T) (r := r) 6 0
    have h2 := gN_le (T := T) (q := 0)
    unfold gC
    omega
  have loop : ∀ k b q, k ≤ 6 → b < 2 ^ 20 → gr T r (gC T r 0) 0 0 = gr T r k b q → s_Ex (d + 3) 0 mX11_firstChairs 19 [some (.ref 1), some (.int (nI r)), some (.int (nI b)), some (.int (nI k)), some (.int (oI (fs T q))), none] [] w (s_I Q) X := by
    intro k
    induction k with
    | zero =>
      intro b q hk hb hg
      rw [hg, gr] at h
      apply xX11_firstChairs_19
      unfold vX11_firstChairs_19
      rw [s_Ii]
      exact ⟨fun _ => h, fun _ => ⟨fun _ => h, fun z => absurd (by decide) z⟩⟩
    | succ k ih =>
      intro b q hk hb hg
      apply xX11_firstChairs_19
      unfold vX11_firstChairs_19
      cases z : fs T q with
      | none =>
        rw [hg, gr_n z] at h
        rw [s_Ii]
        exact ⟨fun _ => h, fun z => absurd rfl z⟩
      | some s =>
        have hs := fs_lt ht z
        have e6 : ¬ (nI (k + 1) ≤ (0 : Int32)) := by
          rw [L_0, nI_leI (by omega) (by omega)]
          omega
        rw [oI_s, ch_dec k (by omega)]
        refine ⟨fun z => ((oI_n (show s < 2 ^ 31 by omega)).mp z).elim, fun _ => ⟨fun z => absurd z e6, fun _ => k_max ?_⟩⟩
        rw [ch_mx s hs r hr]
        rw [gr, z] at hg
        have hg : gr T r (gC T r 0) 0 0 = gr T r k (b ||| 2 ^ chr T r k (19 - (s - r)) (s - r)) (chr T r k (19 - (s - r)) (s - r) + r + 1) := hg
        have seek : ∀ j x, x + j = 19 → chr T r k (19 - (s - r)) (s - r) = chr T r k j x → s_Ex (d + 3) 0 mX11_firstChairs 42 [some (.ref 1), some (.int (nI r)), some (.int (nI b)), some (.int (nI k)), none, some (.int (nI x))] [] w (s_I Q) X := by
          intro j
          induction j with
          | zero =>
            intro x hx hc
            have hx : x = 19 := by omega
            subst hx
            have hc : chr T r k (19 - (s - r)) (s - r) = 19 := hc
            rw [hc] at hg
            have e1 : nI 19 + nI r + 1 = nI (19 + r + 1) := by try simp (disch := omega) only [s_Ii, s_Jj, s_Vn, forall_eq, L_m1, nI_add, nI_clamp, nI_leI, nI_ltI, nI_eq, vp_nI, pk_mul, pk_sub, Nat.zero_add, Nat.add_zero, wr_2, Classical.not_not, true_and, and_true, ne_eq, false_implies, true_implies, implies_true, not_true_eq_false, not_false_eq_true, ia_0, ia_1, za_1, ia_2, za_2, ia_3, za_3, ia_4, za_4, ia_5, za_5, ia_6, za_6, ia_7, za_7, ia_8, za_8, ia_9, za_9, ia_10, za_10, ia_11, za_11, ia_12, za_12, ia_13, za_13, ia_14, za_14, ia_15, za_15, ib_0, ib_1, zb_1, ic_0, ic_1, ic_2, ic_3, zc_1, zc_2, zc_3, id_0, id_1, id_2, id_3, zd_1, zd_2, zd_3, L_0, L_1, L_2, L_3, L_4, L_5, L_6, L_7, L_8, L_9, L_10, L_11, L_12, L_13, L_14, L_15, L_16, L_17, L_18, L_19, L_20, L_24, L_27, L_30, L_31, L_32, L_35, L_36, L_40, L_41, L_43, L_44, L_45, L_46, L_47, L_48, L_50, L_54, L_57, L_58, L_59, L_60, L_61, L_62, L_63, L_91, L_93, L_96, L_97, L_98, L_99, L_100, L_103, L_122, L_145, L_150, L_200, L_255, L_600, L_999, L_1000, L_2000, L_9999, L_10000, L_32767, L_12345, oI_s, oI_n, L_mn, if_true, if_false, ite_true, ite_false, Bool.false_eq_true, Nat.reduceEqDiff, Nat.reduceLeDiff, Nat.reduceLT, Nat.reduceAdd, Nat.reduceSub, Nat.reduceMul, Nat.le_refl, Nat.lt_irrefl, Nat.not_lt_zero]
            have e2 : nI b ||| 1 <<< (nI 19 &&& 31) = nI (b ||| 2 ^ 19) := by
              have := bi_1 (k := 19) (by omega)
              rw [L_1, L_31, this, bi_or]
            apply xX11_firstChairs_42
            unfold vX11_firstChairs_42
            rw [e1, e2]
            refine ⟨fun _ => ⟨hid, K_firstSeat hE (by omega) ?_⟩, fun z => absurd (by decide) z⟩
            exact ih _ _ (by omega) (bi_lt hb (by omega)) hg
          | succ j ihj =>
            intro x hx hc
            have e1 : nI x + nI r + 1 = nI (x + r + 1) := by try simp (disch := omega) only [s_Ii, s_Jj, s_Vn, forall_eq, L_m1, nI_add, nI_clamp, nI_leI, nI_ltI, nI_eq, vp_nI, pk_mul, pk_sub, Nat.zero_add, Nat.add_zero, wr_2, Classical.not_not, true_and, and_true, ne_eq, false_implies, true_implies, implies_true, not_true_eq_false, not_false_eq_true, ia_0, ia_1, za_1, ia_2, za_2, ia_3, za_3, ia_4, za_4, ia_5, za_5, ia_6, za_6, ia_7, za_7, ia_8, za_8, ia_9, za_9, ia_10, za_10, ia_11, za_11, ia_12, za_12, ia_13, za_13, ia_14, za_14, ia_15, za_15, ib_0, ib_1, zb_1, ic_0, ic_1, ic_2, ic_3, zc_1, zc_2, zc_3, id_0, id_1, id_2, id_3, zd_1, zd_2, zd_3, L_0, L_1, L_2, L_3, L_4, L_5, L_6, L_7, L_8, L_9, L_10, L_11, L_12, L_13, L_14, L_15, L_16, L_17, L_18, L_19, L_20, L_24, L_27, L_30, L_31, L_32, L_35, L_36, L_40, L_41, L_43, L_44, L_45, L_46, L_47, L_48, L_50, L_54, L_57, L_58, L_59, L_60, L_61, L_62, L_63, L_91, L_93, L_96, L_97, L_98, L_99, L_100, L_103, L_122, L_145, L_150, L_200, L_255, L_600, L_999, L_1000, L_2000, L_9999, L_10000, L_32767, L_12345, oI_s, oI_n, L_mn, if_true, if_false, ite_true, ite_false, Bool.false_eq_true, Nat.reduceEqDiff, Nat.reduceLeDiff, Nat.reduceLT, Nat.reduceAdd, Nat.reduceSub, Nat.reduceMul, Nat.le_refl, Nat.lt_irrefl, Nat.not_lt_zero]
            have e2 : nI b ||| 1 <<< (nI x &&& 31) = nI (b ||| 2 ^ x) := by
              have := bi_1 (k := x) (by omega)
              rw [L_1, L_31, this, bi_or]
            have e19 : ¬ ((19 : Int32) ≤ nI x) := by
              try simp (disch := omega) only [s_Ii, s_Jj, s_Vn, forall_eq, L_m1, nI_add, nI_clamp, nI_leI, nI_ltI, nI_eq, vp_nI, pk_mul, pk_sub, Nat.zero_add, Nat.add_zero, wr_2, Classical.not_not, true_and, and_true, ne_eq, false_implies, true_implies, implies_true, not_true_eq_false, not_false_eq_true, ia_0, ia_1, za_1, ia_2, za_2, ia_3, za_3, ia_4, za_4, ia_5, za_5, ia_6, za_6, ia_7, za_7, ia_8, za_8, ia_9, za_9, ia_10, za_10, ia_11, za_11, ia_12, za_12, ia_13, za_13, ia_14, za_14, ia_15, za_15, ib_0, ib_1, zb_1, ic_0, ic_1, ic_2, ic_3, zc_1, zc_2, zc_3, id_0, id_1, id_2, id_3, zd_1, zd_2, zd_3, L_0, L_1, L_2, L_3, L_4, L_5, L_6, L_7, L_8, L_9, L_10, L_11, L_12, L_13, L_14, L_15, L_16, L_17, L_18, L_19, L_20, L_24, L_27, L_30, L_31, L_32, L_35, L_36, L_40, L_41, L_43, L_44, L_45, L_46, L_47, L_48, L_50, L_54, L_57, L_58, L_59, L_60, L_61, L_62, L_63, L_91, L_93, L_96, L_97, L_98, L_99, L_100, L_103, L_122, L_145, L_150, L_200, L_255, L_600, L_999, L_1000, L_2000, L_9999, L_10000, L_32767, L_12345, oI_s, oI_n, L_mn, if_true, if_false, ite_true, ite_false, Bool.false_eq_true, Nat.reduceEqDiff, Nat.reduceLeDiff, Nat.reduceLT, Nat.reduceAdd, Nat.reduceSub, Nat.reduceMul, Nat.le_refl, Nat.lt_irrefl, Nat.not_lt_zero]
              omega
            have hgl := gF_le (T := T) (r := r) 6 (x + r + 1)
            have hgl2 := gN_le (T := T) (q := x + r + 1)
            have hgl : gC T r (x + r + 1) ≤ 6 := by unfold gC; omega
            have hce : chr T r k (j + 1) x = if gC T r (x + r + 1) ≤ k then x else chr T r k j (x + 1) := rfl
            rw [hce] at hc
            apply xX11_firstChairs_42
            unfold vX11_firstChairs_42
            rw [e1, e2, nI_1 x]
            refine ⟨fun z => absurd z e19, fun _ => K_fewest hE (by omega) hr ?_⟩
            show (nI (gC T r (x + r + 1)) ≤ nI k → _) ∧ (¬ nI (gC T r (x + r + 1)) ≤ nI k → _)
            rw [nI_leI (by omega) (by omega)]
            refine ⟨fun g => ⟨hid, K_firstSeat hE (by omega) ?_⟩, fun g => ?_⟩
            · rw [if_pos g] at hc
              rw [hc] at hg
              exact ih _ _ (by omega) (bi_lt hb (by omega)) hg
            · rw [if_neg g] at hc
              exact ihj (x + 1) (by omega) hc
        exact seek (19 - (s - r)) (s - r) (by omega) rfl
  apply eX11_firstChairs
  unfold vX11_firstChairs_0
  exact K_fewest (q := 0) hE (by decide) hr ⟨hid, K_firstSeat (q := 0) hE (by decide) (loop _ 0 0 hg6 (by omega) rfl)⟩
