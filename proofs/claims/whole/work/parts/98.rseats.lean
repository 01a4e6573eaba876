/-! chairs of the reference -/
theorem rd_cell {n : Nat} {T : Tb} {C : Nat → Nat} {w : q_Sm} (hE : RE T C n w) {c : Nat} (hc : c < T 7 0) : w.1 89 (2 * c) = nI (sc T c) := hE.2.1.2.1 (2 * c) (by have := tb_nc hE.1; omega)
theorem R_allc {d n b r : Nat} {T : Tb} {C : Nat → Nat} {w : q_Sm} {Q : Int32 → q_Sm → Prop} {X : s_Xo} (hE : RE T C n w) (hb : b < 2 ^ 20) (hr : r < 20) (h0 : ¬ allc T r b → Q 0 w) (h1 : allc T r b → ∀ u, u = q_wI w 79 61 (nI b) → Q 1 u) :
    s_Ex (d + 1) 0 mX12_chairsOn 7 [some (.ref 79), none, none, some (.int (nI b)), some (.int (nI r)), some (.int (nI 0)), none, none] [] w (s_I Q) X := by
  have ht := hE.1
  have hnc := tb_nc ht
  have loop : ∀ j c, c + j = T 7 0 → (∀ i, i < c → cov r b (sc T i)) → s_Ex (d + 1) 0 mX12_chairsOn 7 [some (.ref 79), none, none, some (.int (nI b)), some (.int (nI r)), some (.int (nI c)), none, none] [] w (s_I Q) X := by
    intro j
    induction j with
    | zero =>
      intro c hc hcov
      have hc : c = T 7 0 := by omega
      subst hc
      apply xX12_chairsOn_7
      unfold vX12_chairsOn_7
      rw [hE.nc, nI_leI (by omega) (by omega)]
      refine ⟨fun _ u hu => ?_, fun z => absurd (by omega) z⟩
      rw [s_Ii]
      exact h1 hcov u hu
    | succ j ih =>
      intro c hc hcov
      have hcell := rd_cell hE (c := c) (by omega)
      have hlt := sc_lt ht (c := c) (by omega)
      have e2 : 2 * nI c = nI (2 * c) := by try simp (disch := omega) only [s_Ii, s_Jj, s_Vn, forall_eq, L_m1, nI_add, nI_clamp, nI_leI, nI_ltI, nI_eq, vp_nI, pk_mul, pk_sub, Nat.zero_add, Nat.add_zero, wr_2, Classical.not_not, true_and, and_true, ne_eq, false_implies, true_implies, implies_true, not_true_eq_false, not_false_eq_true, ia_0, ia_1, za_1, ia_2, za_2, ia_3, za_3, ia_4, za_4, ia_5, za_5, ia_6, za_6, ia_7, za_7, ia_8, za_8, ia_9, za_9, ia_10, za_10, ia_11, za_11, ia_12, za_12, ia_13, za_13, ia_14, za_14, ia_15, za_15, ib_0, ib_1, zb_1, ic_0, ic_1, ic_2, ic_3, zc_1, zc_2, zc_3, id_0, id_1, id_2, id_3, zd_1, zd_2, zd_3, L_0, L_1, L_2, L_3, L_4, L_5, L_6, L_7, L_8, L_9, L_10, L_11, L_12, L_13, L_14, L_15, L_16, L_17, L_18, L_19, L_20, L_24, L_27, L_30, L_31, L_32, L_35, L_36, L_40, L_41, L_43, L_44, L_45, L_46, L_47, L_48, L_50, L_54, L_57, L_58, L_59, L_60, L_61, L_62, L_63, L_91, L_93, L_96, L_97, L_98, L_99, L_100, L_103, L_122, L_145, L_150, L_200, L_255, L_600, L_999, L_1000, L_2000, L_9999, L_10000, L_32767, L_12345, oI_s, oI_n, L_mn, if_true, if_false, ite_true, ite_false, Bool.false_eq_true, Nat.reduceEqDiff, Nat.reduceLeDiff, Nat.reduceLT, Nat.reduceAdd, Nat.reduceSub, Nat.reduceMul, Nat.le_refl, Nat.lt_irrefl, Nat.not_lt_zero]
      have hin : vp_in (nI (2 * c)) 12 := (vp_nI (by omega)).mpr (by omega)
      have ec : Int32.toNatClampNeg (nI (2 * c)) = 2 * c := nI_clamp (by omega)
      have yes : cov r b (sc T c) → s_Ex (d + 1) 0 mX12_chairsOn 7 [some (.ref 79), none, none, some (.int (nI b)), some (.int (nI r)), some (.int (nI (c + 1))), none, none] [] w (s_I Q) X := by
        intro hco
        refine ih (c + 1) (by omega) (fun i hi => ?_)
        by_cases q : i = c
        · rw [q]; exact hco
        · exact hcov i (by omega)
      have lp1 : cov r b (sc T c) → ∀ k y, y + k = 20 → s_Ex (d + 1) 0 mX12_chairsOn 22 [some (.ref 79), none, none, some (.int (nI b)), some (.int (nI r)), some (.int (nI c)), some (.int 1), some (.int (nI y))] [] w (s_I Q) X := by
        intro hco k
        induction k with
        | zero =>
          intro y hy
          have hy : y = 20 := by omega
          subst hy
          apply xX12_chairsOn_22
          unfold vX12_chairsOn_22
          rw [nI_1 c]
          exact ⟨fun _ => ⟨fun _ => yes hco, fun z => absurd (by decide) z⟩, fun z => absurd (by decide) z⟩
        | succ k ihk =>
          intro y hy
          have e20 : ¬ ((20 : Int32) ≤ nI y) := by
            try simp (disch := omega) only [s_Ii, s_Jj, s_Vn, forall_eq, L_m1, nI_add, nI_clamp, nI_leI, nI_ltI, nI_eq, vp_nI, pk_mul, pk_sub, Nat.zero_add, Nat.add_zero, wr_2, Classical.not_not, true_and, and_true, ne_eq, false_implies, true_implies, implies_true, not_true_eq_false, not_false_eq_true, ia_0, ia_1, za_1, ia_2, za_2, ia_3, za_3, ia_4, za_4, ia_5, za_5, ia_6, za_6, ia_7, za_7, ia_8, za_8, ia_9, za_9, ia_10, za_10, ia_11, za_11, ia_12, za_12, ia_13, za_13, ia_14, za_14, ia_15, za_15, ib_0, ib_1, zb_1, ic_0, ic_1, ic_2, ic_3, zc_1, zc_2, zc_3, id_0, id_1, id_2, id_3, zd_1, zd_2, zd_3, L_0, L_1, L_2, L_3, L_4, L_5, L_6, L_7, L_8, L_9, L_10, L_11, L_12, L_13, L_14, L_15, L_16, L_17, L_18, L_19, L_20, L_24, L_27, L_30, L_31, L_32, L_35, L_36, L_40, L_41, L_43, L_44, L_45, L_46, L_47, L_48, L_50, L_54, L_57, L_58, L_59, L_60, L_61, L_62, L_63, L_91, L_93, L_96, L_97, L_98, L_99, L_100, L_103, L_122, L_145, L_150, L_200, L_255, L_600, L_999, L_1000, L_2000, L_9999, L_10000, L_32767, L_12345, oI_s, oI_n, L_mn, if_true, if_false, ite_true, ite_false, Bool.false_eq_true, Nat.reduceEqDiff, Nat.reduceLeDiff, Nat.reduceLT, Nat.reduceAdd, Nat.reduceSub, Nat.reduceMul, Nat.le_refl, Nat.lt_irrefl, Nat.not_lt_zero]
            omega
          apply xX12_chairsOn_22
          unfold vX12_chairsOn_22
          rw [nI_1 y]
          exact ⟨fun z => absurd z e20, fun _ => ⟨fun _ => ihk (y + 1) (by omega), fun z => absurd (by decide) z⟩⟩
      have lp0 : ∀ k y, y + k = 20 → (∀ x, x < y → ¬ (b.testBit x = true ∧ x ≤ sc T c + r ∧ sc T c ≤ x + r)) → s_Ex (d + 1) 0 mX12_chairsOn 22 [some (.ref 79), none, none, some (.int (nI b)), some (.int (nI r)), some (.int (nI c)), some (.int 0), some (.int (nI y))] [] w (s_I Q) X := by
        intro k
        induction k with
        | zero =>
          intro y hy hno
          have hy : y = 20 := by omega
          subst hy
          apply xX12_chairsOn_22
          unfold vX12_chairsOn_22
          refine ⟨fun _ => ⟨fun z => absurd rfl z, fun _ => ?_⟩, fun z => absurd (by decide) z⟩
          rw [s_Ii]
          refine h0 (fun ha => ?_)
          obtain ⟨x, hx1, hx2⟩ := ha c (by omega)
          exact hno x hx1 hx2
        | succ k ihk =>
          intro y hy hno
          have e20 : ¬ ((20 : Int32) ≤ nI y) := by
            try simp (disch := omega) only [s_Ii, s_Jj, s_Vn, forall_eq, L_m1, nI_add, nI_clamp, nI_leI, nI_ltI, nI_eq, vp_nI, pk_mul, pk_sub, Nat.zero_add, Nat.add_zero, wr_2, Classical.not_not, true_and, and_true, ne_eq, false_implies, true_implies, implies_true, not_true_eq_false, not_false_eq_true, ia_0, ia_1, za_1, ia_2, za_2, ia_3, za_3, ia_4, za_4, ia_5, za_5, ia_6, za_6, ia_7, za_7, ia_8, za_8, ia_9, za_9, ia_10, za_10, ia_11, za_11, ia_12, za_12, ia_13, za_13, ia_14, za_14, ia_15, za_15, ib_0, ib_1, zb_1, ic_0, ic_1, ic_2, ic_3, zc_1, zc_2, zc_3, id_0, id_1, id_2, id_3, zd_1, zd_2, zd_3, L_0, L_1, L_2, L_3, L_4, L_5, L_6, L_7, L_8, L_9, L_10, L_11, L_12, L_13, L_14, L_15, L_16, L_17, L_18, L_19, L_20, L_24, L_27, L_30, L_31, L_32, L_35, L_36, L_40, L_41, L_43, L_44, L_45, L_46, L_47, L_48, L_50, L_54, L_57, L_58, L_59, L_60, L_61, L_62, L_63, L_91, L_93, L_96, L_97, L_98, L_99, L_100, L_103, L_122, L_145, L_150, L_200, L_255, L_600, L_999, L_1000, L_2000, L_9999, L_10000, L_32767, L_12345, oI_s, oI_n, L_mn, if_true, if_false, ite_true, ite_false, Bool.false_eq_true, Nat.reduceEqDiff, Nat.reduceLeDiff, Nat.reduceLT, Nat.reduceAdd, Nat.reduceSub, Nat.reduceMul, Nat.le_refl, Nat.lt_irrefl, Nat.not_lt_zero]
            omega
          have ebit : (nI b >>> (nI y &&& 31)) &&& 1 = nI (if b.testBit y then 1 else 0) := by
            have := bi_bit (g := b) (k := y) (by omega) (by omega)
            rw [L_1, L_31]
            exact this
          have next : ¬ (b.testBit y = true ∧ y ≤ sc T c + r ∧ sc T c ≤ y + r) → s_Ex (d + 1) 0 mX12_chairsOn 22 [some (.ref 79), none, none, some (.int (nI b)), some (.int (nI r)), some (.int (nI c)), some (.int 0), some (.int (nI (y + 1)))] [] w (s_I Q) X := by
            intro hn
            refine ihk (y + 1) (by omega) (fun x hx => ?_)
            by_cases q : x = y
            · rw [q]; exact hn
            · exact hno x (by omega)
          apply xX12_chairsOn_22
          unfold vX12_chairsOn_22
          rw [nI_1 y, ebit, e2, ec, hcell]
          refine ⟨fun z => absurd z e20, fun _ => ⟨fun z => absurd rfl z, fun _ => ?_⟩⟩
          cases hbit : b.testBit y with
          | false => exact ⟨fun _ => next (fun z => by rw [hbit] at z; exact absurd z.1 (by decide)), fun z => absurd (by decide) z⟩
          | true =>
            refine ⟨fun z => absurd rfl z, fun _ => ⟨hin, ?_⟩⟩
            rw [nI_leI (by omega) (by omega)]
            refine ⟨fun g => ⟨hin, ?_⟩, fun g => ⟨hin, ?_⟩⟩
            · rw [pk_sub (by omega), nI_ltI (by omega) (by omega)]
              exact ⟨fun g2 => next (fun z => by omega), fun g2 => lp1 ⟨y, by omega, hbit, by omega, by omega⟩ k (y + 1) (by omega)⟩
            · rw [pk_sub (by omega), nI_ltI (by omega) (by omega)]
              exact ⟨fun g2 => next (fun z => by omega), fun g2 => lp1 ⟨y, by omega, hbit, by omega, by omega⟩ k (y + 1) (by omega)⟩
      apply xX12_chairsOn_7
      unfold vX12_chairsOn_7
      rw [hE.nc, nI_leI (by omega) (by omega)]
      refine ⟨fun z => absurd z (by omega), fun _ => ?_⟩
      exact lp0 20 0 rfl (fun x hx => absurd hx (by omega))
  exact loop (T 7 0) 0 (by omega) (fun i hi => absurd hi (by omega))
theorem R_chairsOn {n r : Nat} {T : Tb} {C : Nat → Nat} {w : q_Sm} {X : s_Xo} (hE : RE T C n w) (hr : r < 20) : ∀ (k d x b : Nat) (Q : Int32 → q_Sm → Prop), k ≤ 6 → x ≤ 20 → b < 2 ^ 20 → (ch T r k x b = none → Q 0 w) → (∀ v, ch T r k x b = some v → ∀ u, u = q_wI w 79 61 (nI v) → Q 1 u) →
    s_EvI (d + k + 1) 0 mX12_chairsOn w [.ref 79, .int (nI k), .int (nI x), .int (nI b), .int (nI r)] Q X := by
  intro k
  induction k with
  | zero =>
    intro d x b Q hk hx hb h0 h1
    apply eX12_chairsOn
    unfold vX12_chairsOn_0
    refine ⟨fun z => absurd rfl z, fun _ => R_allc (d := d + 0) hE hb hr (fun z => h0 ?_) (fun z => h1 b ?_)⟩
    · exact @if_neg _ (Classical.propDecidable _) z _ _ _
    · exact @if_pos _ (Classical.propDecidable _) z _ _ _
  | succ k ih =>
    intro d x b Q hk hx hb h0 h1
    have loop : ∀ j y, y + j = 20 → ch T r (k + 1) x b = chf (ch T r k) b j y → s_Ex (d + (k + 1) + 1) 0 mX12_chairsOn 126 [some (.ref 79), some (.int (nI (k + 1))), none, some (.int (nI b)), some (.int (nI r)), some (.int (nI y)), none, none] [] w (s_I Q) X := by
      intro j
      induction j with
      | zero =>
        intro y hy he
        have hy : y = 20 := by omega
        subst hy
        apply xX12_chairsOn_126
        unfold vX12_chairsOn_126
        refine ⟨fun _ => ?_, fun z => absurd (by decide) z⟩
        rw [s_Ii]
        exact h0 he
      | succ j ihj =>
        intro y hy he
        have e20 : ¬ ((20 : Int32) ≤ nI y) := by
          try simp (disch := omega) only [s_Ii, s_Jj, s_Vn, forall_eq, L_m1, nI_add, nI_clamp, nI_leI, nI_ltI, nI_eq, vp_nI, pk_mul, pk_sub, Nat.zero_add, Nat.add_zero, wr_2, Classical.not_not, true_and, and_true, ne_eq, false_implies, true_implies, implies_true, not_true_eq_false, not_false_eq_true, ia_0, ia_1, za_1, ia_2, za_2, ia_3, za_3, ia_4, za_4, ia_5, za_5, ia_6, za_6, ia_7, za_7, ia_8, za_8, ia_9, za_9, ia_10, za_10, ia_11, za_11, ia_12, za_12, ia_13, za_13, ia_14, za_14, ia_15, za_15, ib_0, ib_1, zb_1, ic_0, ic_1, ic_2, ic_3, zc_1, zc_2, zc_3, id_0, id_1, id_2, id_3, zd_1, zd_2, zd_3, L_0, L_1, L_2, L_3, L_4, L_5, L_6, L_7, L_8, L_9, L_10, L_11, L_12, L_13, L_14, L_15, L_16, L_17, L_18, L_19, L_20, L_24, L_27, L_30, L_31, L_32, L_35, L_36, L_40, L_41, L_43, L_44, L_45, L_46, L_47, L_48, L_50, L_54, L_57, L_58, L_59, L_60, L_61, L_62, L_63, L_91, L_93, L_96, L_97, L_98, L_99, L_100, L_103, L_122, L_145, L_150, L_200, L_255, L_600, L_999, L_1000, L_2000, L_9999, L_10000, L_32767, L_12345, oI_s, oI_n, L_mn, if_true, if_false, ite_true, ite_false, Bool.false_eq_true, Nat.reduceEqDiff, Nat.reduceLeDiff, Nat.reduceLT, Nat.reduceAdd, Nat.reduceSub, Nat.reduceMul, Nat.le_refl, Nat.lt_irrefl, Nat.not_lt_zero]
          omega
        have e2 : nI b ||| 1 <<< (nI y &&& 31) = nI (b ||| 2 ^ y) := by
          have := bi_1 (k := y) (by omega)
          rw [L_1, L_31, this, bi_or]
        rw [chf] at he
        apply xX12_chairsOn_126
        unfold vX12_chairsOn_126
        rw [ch_sub1 k (by omega), e2, nI_1 y]
        refine ⟨fun z => absurd z e20, fun _ => ih d (y + 1) (b ||| 2 ^ y) _ (by omega) (by omega) (bi_lt hb (by omega)) (fun z => ?_) (fun v z u hu => ?_)⟩
        · rw [z] at he
          exact ⟨fun _ => ihj (y + 1) (by omega) he, fun z => absurd rfl z⟩
        · rw [z] at he
          refine ⟨fun z => absurd z (by decide), fun _ => ?_⟩
          rw [s_Ii]
          exact h1 v he u hu
    have e1 : ¬ nI (k + 1) = 0 := by
      rw [L_0, nI_eq (by omega) (by omega)]
      omega
    apply eX12_chairsOn
    unfold vX12_chairsOn_0
    exact ⟨fun _ => loop (20 - x) x (by omega) rfl, fun z => absurd e1 z⟩
