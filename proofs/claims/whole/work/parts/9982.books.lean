/-! the book's text, class and reference -/
theorem K_bookLoop {d N o : Nat} {Y : Nat → Nat} {X : s_Xo} {Q : q_Sm → Prop} (ho : o = 44 ∨ o = 48) : ∀ j m a (B : Nat → Nat) (w : q_Sm), m + j = 11 → tC N Y a w → fC none w → bl o m B w → (∀ u, fr (aBk o) w u → fC (bkp N Y j m a B).1 u → ((bkp N Y j m a B).1 = none → bl o (bkp N Y j m a B).2.1 (bkp N Y j m a B).2.2 u) → Q u) → s_Ex (d + 8) 0 mX1_read 6 [some (.ref o), some (.ref 2), some (.int (nI m))] [] w (s_V Q) X := by
  intro j
  induction j with
  | zero =>
    intro m a B w hm hT hf hb h
    have := hb.1
    omega
  | succ j ih =>
    intro m a B w hm hT hf hb h
    have hm10 := hb.1
    have hle : ¬ ((10 : Int32) < nI m) := by
      try simp (disch := omega) only [s_Ii, s_Jj, s_Vn, forall_eq, L_m1, nI_add, nI_clamp, nI_leI, nI_ltI, nI_eq, vp_nI, pk_mul, pk_sub, Nat.zero_add, Nat.add_zero, wr_2, Classical.not_not, true_and, and_true, ne_eq, false_implies, true_implies, implies_true, not_true_eq_false, not_false_eq_true, ia_0, ia_1, za_1, ia_2, za_2, ia_3, za_3, ia_4, za_4, ia_5, za_5, ia_6, za_6, ia_7, za_7, ia_8, za_8, ia_9, za_9, ia_10, za_10, ia_11, za_11, ia_12, za_12, ia_13, za_13, ia_14, za_14, ia_15, za_15, ib_0, ib_1, zb_1, ic_0, ic_1, ic_2, ic_3, zc_1, zc_2, zc_3, id_0, id_1, id_2, id_3, zd_1, zd_2, zd_3, L_0, L_1, L_2, L_3, L_4, L_5, L_6, L_7, L_8, L_9, L_10, L_11, L_12, L_13, L_14, L_15, L_16, L_17, L_18, L_19, L_20, L_24, L_27, L_30, L_31, L_32, L_35, L_36, L_40, L_41, L_43, L_44, L_45, L_46, L_47, L_48, L_50, L_54, L_57, L_58, L_59, L_60, L_61, L_62, L_63, L_91, L_93, L_96, L_97, L_98, L_99, L_100, L_103, L_122, L_145, L_150, L_200, L_255, L_600, L_999, L_1000, L_2000, L_9999, L_10000, L_32767, L_12345, oI_s, oI_n, L_mn, if_true, if_false, ite_true, ite_false, Bool.false_eq_true, Nat.reduceEqDiff, Nat.reduceLeDiff, Nat.reduceLT, Nat.reduceAdd, Nat.reduceSub, Nat.reduceMul, Nat.le_refl, Nat.lt_irrefl, Nat.not_lt_zero]
      omega
    rw [bkp] at h
    apply xX1_read_6
    unfold vX1_read_6
    rw [nI_1 m]
    refine ⟨fun z => absurd z hle, fun _ => K_goesOn (d := d + 5) hT hf (fun u fu tu ffu _ hs => ?_) (fun u fu tu ffu hs => ?_)⟩
    · rw [@if_pos _ (Classical.propDecidable _) hs] at h
      refine ⟨fun z => absurd z (by decide), fun _ => ⟨id_0 ho, K_readLine (d := d) ho tu ffu (hb.T ho fu) (fun u2 f2 t2 ff2 b2 => ?_)⟩⟩
      refine K_need (d := d + 4) (c := 59) (by decide) t2 ff2 (fun u3 a3 f3 t3 ha3 ff3 => ?_)
      have ff3 : fC (bF3 N Y m (sk N Y a)) u3 := ff3
      have fr3 : fr (aBk o) w u3 := ((aBk_T fu).trans f2).trans (aBk_T f3)
      cases hF : bF3 N Y m (sk N Y a) with
      | none =>
        have hF2 := (orf_nn.mp hF).1
        rw [hF] at h ff3
        have ha := ha3 hF2
        subst ha
        exact ih (m + 1) _ _ u3 (by omega) t3 ff3 ((b2 hF2).T ho f3) (fun u4 f4 g1 g2 => h u4 (fr3.trans f4) g1 g2)
      | some x =>
        rw [hF] at h ff3
        apply xX1_read_6
        unfold vX1_read_6
        rw [s_Vn]
        refine ⟨fun _ => h u3 fr3 ff3 (fun z => by simp at z), fun _ => K_goesOn (d := d + 5) t3 ff3 (fun u4 _ _ _ z _ => by simp at z) (fun u4 f4 t4 ff4 _ => ?_)⟩
        rw [s_Vn]
        exact ⟨fun _ => h u4 (fr3.trans (aBk_T f4)) ff4 (fun z => by simp at z), fun z => absurd rfl z⟩
    · rw [@if_neg _ (Classical.propDecidable _) (hs rfl)] at h
      rw [s_Vn]
      exact ⟨fun _ => h u (aBk_T fu) ffu (fun _ => hb.T ho fu), fun z => absurd rfl z⟩
theorem K_bookRead {d N o : Nat} {Y : Nat → Nat} {X : s_Xo} {Q : q_Sm → Prop} {w : q_Sm} (ho : o = 44 ∨ o = 48) (hT : tC N Y 0 w) (hf : fC none w) (h : ∀ u, fr (aBk o) w u → fC (bkp N Y 11 0 0 (fun _ => 0)).1 u → ((bkp N Y 11 0 0 (fun _ => 0)).1 = none → bl o (bkp N Y 11 0 0 (fun _ => 0)).2.1 (bkp N Y 11 0 0 (fun _ => 0)).2.2 u) → Q u) : s_EvV (d + 8) 0 mX1_read w [.ref o, .ref 2] Q X := by
  apply eX1_read
  unfold vX1_read_0
  refine ⟨id_0 ho, ?_⟩
  apply eX1_clear
  unfold vX1_clear_0
  refine ⟨id_0 ho, ?_⟩
  intro w1 e1
  rw [s_Vn]
  have g1 : ∀ i j, i = 2 ∨ i = 3 → w1.1 i j = w.1 i j := fun i j q => by rw [e1, rd_i (by omega)]
  have f1 : fr (aBk o) w w1 := by rw [e1]; exact fr.wr (by simp [aBk])
  exact K_bookLoop (d := d) (Q := Q) (X := X) ho 11 0 0 (fun _ => 0) w1 rfl ⟨hT.1, hT.2.1, by rw [g1 _ _ (by omega)]; exact hT.2.2.1, by rw [g1 _ _ (by omega)]; exact hT.2.2.2.1, fun k hk => by rw [g1 _ _ (by omega)]; exact hT.2.2.2.2 k hk⟩ (hf.mv (g1 _ _ (by omega)) (g1 _ _ (by omega))) ⟨by omega, by rw [e1, rd_s]; rfl, fun i hi => absurd hi (by omega)⟩ (fun u fu => h u (f1.trans fu))
def bm (m : Nat) (B : Nat → Nat) (w : q_Sm) : Prop := ∀ k, k < 3 * m → w.1 107 k = nI (B k)
def aRb (i j : Nat) : Bool := aRx i j || i == 107
theorem aRb_x {w u : q_Sm} (h : fr aRx w u) : fr aRb w u := h.mono (fun i j q => by simp [aRb, q])
theorem bm.x {m : Nat} {B : Nat → Nat} {w u : q_Sm} (h : bm m B w) (hf : fr aRx w u) : bm m B u := fun k hk => by rw [hf.2 107 k (by simp [aRx])]; exact h k hk
theorem R_bookLoop {d N : Nat} {Y : Nat → Nat} {X : s_Xo} {Q : s_Po} : ∀ j m a (B : Nat → Nat) (w : q_Sm), m + j = 11 → m ≤ 10 → tR N Y a w → fR none w → bm m B w → (∀ u m', fr aRb w u → fR (bkp N Y j m a B).1 u → ((bkp N Y j m a B).1 = none → m' = (bkp N Y j m a B).2.1 ∧ bm (bkp N Y j m a B).2.1 (bkp N Y j m a B).2.2 u) → s_Ex (d + 9) 0 mX12_book 164 [some (.ref 79), none, some (.int (nI m')), none, none, none, none] [] u Q X) → s_Ex (d + 9) 0 mX12_book 46 [some (.ref 79), none, some (.int (nI m)), none, none, none, none] [] w Q X := by
  intro j
  induction j with
  | zero =>
    intro m a B w hm hm10
    omega
  | succ j ih =>
    intro m a B w hm hm10 hT hf hb h
    have h600 := hT.1
    have hsN := sk_le (Y := Y) hT.2.1
    rw [bkp] at h
    apply xX12_book_46
    unfold vX12_book_46
    refine R_fine hf (fun _ => ?_) (fun z => absurd rfl z)
    refine ⟨fun z => absurd z (by decide), fun _ => R_isMore hT hf (fun u fu tu ffu hs => ?_) (fun u fu tu ffu hs => ?_)⟩
    rotate_left
    · rw [@if_neg _ (Classical.propDecidable _) hs] at h
      exact ⟨fun _ => h u m (aRb_x fu) ffu (fun _ => ⟨rfl, hb.x fu⟩), fun z => absurd rfl z⟩
    rw [@if_pos _ (Classical.propDecidable _) hs] at h
    have hu4 : u.1 79 4 = nI (sk N Y a) := tu.2.2.2.1
    refine ⟨fun z => absurd z (by decide), fun _ => R_readNumber (d := d + 6) (lo := 0) (hi := 60) (by decide) (by decide) tu ffu (fun u2 a2 v2 f2 t2 ff2 hv2 => ?_)⟩
    have hss := sk_sk (Y := Y) hT.2.1
    -- from the colour on
    have tail : ∀ u5 a5, fr aRx w u5 → tR N Y a5 u5 → fR (bF1 N Y m (sk N Y a)) u5 → (bF1 N Y m (sk N Y a) = none → a5 = bA1 N Y (sk N Y a)) → s_Ex (d + 9) 0 mX12_book 93 [some (.ref 79), none, some (.int (nI m)), none, some (.int v2), none, none] [] u5 Q X := by
      intro u5 a5 f5 t5 ff5 h5
      apply xX12_book_93
      unfold vX12_book_93
      -- whether or not a fault stands, the fault after is the pure one
      cases hF1 : bF1 N Y m (sk N Y a) with
      | some x =>
        have hF3 : bF3 N Y m (sk N Y a) = some x := by
          unfold bF3 bF2
          rw [hF1]
          rfl
        rw [hF3] at h
        rw [hF1] at ff5
        refine R_readColour (d := d + 1) t5 ff5 (fun u6 a6 v6 f6 t6 ff6 _ => R_readNumber (d := d + 6) (lo := 0) (hi := 40) (by decide) (by decide) t6 ff6 (fun u7 a7 v7 f7 t7 ff7 _ => R_sign (d := d + 6) (c := 59) (by decide) (by decide) t7 ff7 (fun u8 a8 f8 t8 _ ff8 => ?_)))
        refine R_fine ff8 (fun z => by simp [orf] at z) (fun _ => ⟨fun z => absurd rfl z, fun _ => ?_⟩)
        exact h u8 m (aRb_x (((f5.trans f6).trans f7).trans f8)) ff8 (fun z => by simp at z)
      | none =>
        have ha5 := h5 hF1
        subst ha5
        rw [hF1] at ff5
        refine R_readColour (d := d + 1) t5 ff5 (fun u6 a6 v6 f6 t6 ff6 h6 => ?_)
        cases hc : (col N Y (bA1 N Y (sk N Y a))).1 with
        | some x =>
          have hF3 : bF3 N Y m (sk N Y a) = some x := by
            unfold bF3 bF2
            rw [hF1, hc]
            rfl
          rw [hF3] at h
          rw [hc] at ff6
          refine R_readNumber (d := d + 6) (lo := 0) (hi := 40) (by decide) (by decide) t6 ff6 (fun u7 a7 v7 f7 t7 ff7 _ => R_sign (d := d + 6) (c := 59) (by decide) (by decide) t7 ff7 (fun u8 a8 f8 t8 _ ff8 => ?_))
          refine R_fine ff8 (fun z => by simp [orf] at z) (fun _ => ⟨fun z => absurd rfl z, fun _ => ?_⟩)
          exact h u8 m (aRb_x (((f5.trans f6).trans f7).trans f8)) ff8 (fun z => by simp at z)
        | none =>
          rw [hc] at ff6 h6
          obtain ⟨ha6, hv6⟩ := h6 rfl
          have ha6 : a6 = bA2 N Y (sk N Y a) := ha6
          subst ha6
          refine R_readNumber (d := d + 6) (lo := 0) (hi := 40) (by decide) (by decide) t6 ff6 (fun u7 a7 v7 f7 t7 ff7 h7 => ?_)
          have e2 : bF2 N Y m (sk N Y a) = (num N Y 0 40 (bA2 N Y (sk N Y a))).1 := by
            unfold bF2
            rw [hF1, hc]
            rfl
          have ff7 : fR (num N Y 0 40 (bA2 N Y (sk N Y a))).1 u7 := ff7
          have h7 : (num N Y 0 40 (bA2 N Y (sk N Y a))).1 = none → a7 = bA3 N Y (sk N Y a) ∧ v7 = nI (num N Y 0 40 (bA2 N Y (sk N Y a))).2.1 := h7
          rw [← e2] at ff7 h7
          refine R_sign (d := d + 6) (c := 59) (by decide) (by decide) t7 ff7 (fun u8 a8 f8 t8 h8 ff8 => ?_)
          have fr8 := ((f5.trans f6).trans f7).trans f8
          cases hF2 : bF2 N Y m (sk N Y a) with
          | some x =>
            have hF3 : bF3 N Y m (sk N Y a) = some x := by
              unfold bF3
              rw [hF2]
              rfl
            rw [hF3] at h
            rw [hF2] at ff8
            refine R_fine ff8 (fun z => by simp [orf] at z) (fun _ => ⟨fun z => absurd rfl z, fun _ => ?_⟩)
            exact h u8 m (aRb_x fr8) ff8 (fun z => by simp at z)
          | none =>
            obtain ⟨ha7, hv7⟩ := h7 hF2
            subst ha7
            have e3 : orf (bF2 N Y m (sk N Y a)) (sig N Y 59 (bA3 N Y (sk N Y a))).1 = bF3 N Y m (sk N Y a) := rfl
            rw [e3] at ff8 h8
            have hv2' : v2 = nI (num N Y 0 60 (sk N Y a)).2.1 := (hv2 (orf_nn.mp hF1).1).2
            have hm9 : m < 10 := by
              have := (orf_nn.mp hF1).2
              apply Classical.byContradiction
              intro q
              rw [if_neg q] at this
              simp at this
            refine R_fine ff8 (fun z => ?_) (fun z => ?_)
            · refine ⟨fun _ => ?_, fun z => absurd (by decide) z⟩
              rw [z] at h ff8
              have e30 : 3 * nI m = nI (3 * m) := by try simp (disch := omega) only [s_Ii, s_Jj, s_Vn, forall_eq, L_m1, nI_add, nI_clamp, nI_leI, nI_ltI, nI_eq, vp_nI, pk_mul, pk_sub, Nat.zero_add, Nat.add_zero, wr_2, Classical.not_not, true_and, and_true, ne_eq, false_implies, true_implies, implies_true, not_true_eq_false, not_false_eq_true, ia_0, ia_1, za_1, ia_2, za_2, ia_3, za_3, ia_4, za_4, ia_5, za_5, ia_6, za_6, ia_7, za_7, ia_8, za_8, ia_9, za_9, ia_10, za_10, ia_11, za_11, ia_12, za_12, ia_13, za_13, ia_14, za_14, ia_15, za_15, ib_0, ib_1, zb_1, ic_0, ic_1, ic_2, ic_3, zc_1, zc_2, zc_3, id_0, id_1, id_2, id_3, zd_1, zd_2, zd_3, L_0, L_1, L_2, L_3, L_4, L_5, L_6, L_7, L_8, L_9, L_10, L_11, L_12, L_13, L_14, L_15, L_16, L_17, L_18, L_19, L_20, L_24, L_27, L_30, L_31, L_32, L_35, L_36, L_40, L_41, L_43, L_44, L_45, L_46, L_47, L_48, L_50, L_54, L_57, L_58, L_59, L_60, L_61, L_62, L_63, L_91, L_93, L_96, L_97, L_98, L_99, L_100, L_103, L_122, L_145, L_150, L_200, L_255, L_600, L_999, L_1000, L_2000, L_9999, L_10000, L_32767, L_12345, oI_s, oI_n, L_mn, if_true, if_false, ite_true, ite_false, Bool.false_eq_true, Nat.reduceEqDiff, Nat.reduceLeDiff, Nat.reduceLT, Nat.reduceAdd, Nat.reduceSub, Nat.reduceMul, Nat.le_refl, Nat.lt_irrefl, Nat.not_lt_zero]
              have e31 : 3 * nI m + 1 = nI (3 * m + 1) := by try simp (disch := omega) only [s_Ii, s_Jj, s_Vn, forall_eq, L_m1, nI_add, nI_clamp, nI_leI, nI_ltI, nI_eq, vp_nI, pk_mul, pk_sub, Nat.zero_add, Nat.add_zero, wr_2, Classical.not_not, true_and, and_true, ne_eq, false_implies, true_implies, implies_true, not_true_eq_false, not_false_eq_true, ia_0, ia_1, za_1, ia_2, za_2, ia_3, za_3, ia_4, za_4, ia_5, za_5, ia_6, za_6, ia_7, za_7, ia_8, za_8, ia_9, za_9, ia_10, za_10, ia_11, za_11, ia_12, za_12, ia_13, za_13, ia_14, za_14, ia_15, za_15, ib_0, ib_1, zb_1, ic_0, ic_1, ic_2, ic_3, zc_1, zc_2, zc_3, id_0, id_1, id_2, id_3, zd_1, zd_2, zd_3, L_0, L_1, L_2, L_3, L_4, L_5, L_6, L_7, L_8, L_9, L_10, L_11, L_12, L_13, L_14, L_15, L_16, L_17, L_18, L_19, L_20, L_24, L_27, L_30, L_31, L_32, L_35, L_36, L_40, L_41, L_43, L_44, L_45, L_46, L_47, L_48, L_50, L_54, L_57, L_58, L_59, L_60, L_61, L_62, L_63, L_91, L_93, L_96, L_97, L_98, L_99, L_100, L_103, L_122, L_145, L_150, L_200, L_255, L_600, L_999, L_1000, L_2000, L_9999, L_10000, L_32767, L_12345, oI_s, oI_n, L_mn, if_true, if_false, ite_true, ite_false, Bool.false_eq_true, Nat.reduceEqDiff, Nat.reduceLeDiff, Nat.reduceLT, Nat.reduceAdd, Nat.reduceSub, Nat.reduceMul, Nat.le_refl, Nat.lt_irrefl, Nat.not_lt_zero]
              have e32 : 3 * nI m + 2 = nI (3 * m + 2) := by try simp (disch := omega) only [s_Ii, s_Jj, s_Vn, forall_eq, L_m1, nI_add, nI_clamp, nI_leI, nI_ltI, nI_eq, vp_nI, pk_mul, pk_sub, Nat.zero_add, Nat.add_zero, wr_2, Classical.not_not, true_and, and_true, ne_eq, false_implies, true_implies, implies_true, not_true_eq_false, not_false_eq_true, ia_0, ia_1, za_1, ia_2, za_2, ia_3, za_3, ia_4, za_4, ia_5, za_5, ia_6, za_6, ia_7, za_7, ia_8, za_8, ia_9, za_9, ia_10, za_10, ia_11, za_11, ia_12, za_12, ia_13, za_13, ia_14, za_14, ia_15, za_15, ib_0, ib_1, zb_1, ic_0, ic_1, ic_2, ic_3, zc_1, zc_2, zc_3, id_0, id_1, id_2, id_3, zd_1, zd_2, zd_3, L_0, L_1, L_2, L_3, L_4, L_5, L_6, L_7, L_8, L_9, L_10, L_11, L_12, L_13, L_14, L_15, L_16, L_17, L_18, L_19, L_20, L_24, L_27, L_30, L_31, L_32, L_35, L_36, L_40, L_41, L_43, L_44, L_45, L_46, L_47, L_48, L_50, L_54, L_57, L_58, L_59, L_60, L_61, L_62, L_63, L_91, L_93, L_96, L_97, L_98, L_99, L_100, L_103, L_122, L_145, L_150, L_200, L_255, L_600, L_999, L_1000, L_2000, L_9999, L_10000, L_32767, L_12345, oI_s, oI_n, L_mn, if_true, if_false, ite_true, ite_false, Bool.false_eq_true, Nat.reduceEqDiff, Nat.reduceLeDiff, Nat.reduceLT, Nat.reduceAdd, Nat.reduceSub, Nat.reduceMul, Nat.le_refl, Nat.lt_irrefl, Nat.not_lt_zero]
              rw [e31, e32, e30, nI_clamp (by omega), nI_clamp (by omega), nI_clamp (by omega), nI_1 m]
              refine ⟨(vp_nI (by omega)).mpr (by omega), ?_⟩
              rintro _ rfl
              refine ⟨(vp_nI (by omega)).mpr (by omega), ?_⟩
              rintro _ rfl
              refine ⟨(vp_nI (by omega)).mpr (by omega), ?_⟩
              intro w9 e9
              have f9 : fr aRb u8 w9 := by rw [e9]; exact (((fr.wr (by simp [aRb])).put (by simp [aRb])).put (by simp [aRb]))
              have g9 : ∀ i j, i = 79 ∨ i = 81 → w9.1 i j = u8.1 i j := fun i j q => by rw [e9, rd_i (by omega), rd_i (by omega), rd_i (by omega)]
              have ha8 := h8 z
              subst ha8
              refine ih (m + 1) _ _ w9 (by omega) (by omega) ⟨t8.1, t8.2.1, by rw [g9 _ _ (by omega)]; exact t8.2.2.1, by rw [g9 _ _ (by omega)]; exact t8.2.2.2.1, fun k hk => by rw [g9 _ _ (by omega)]; exact t8.2.2.2.2 k hk⟩ (ff8.mv (g9 _ _ (by omega)) (g9 _ _ (by omega))) (fun k hk => ?_) (fun u10 m10 f10 => h u10 m10 (((aRb_x fr8).trans f9).trans f10))
              unfold bL
              by_cases q2 : k = 3 * m + 2
              · subst q2; rw [b3_2, e9, rd_s, hv7]
              · by_cases q1 : k = 3 * m + 1
                · subst q1; rw [b3_1, e9, rd_j (by omega), rd_s, hv6]
                · by_cases q0 : k = 3 * m
                  · subst q0; rw [b3_0, e9, rd_j (by omega), rd_j (by omega), rd_s, hv2']
                  · rw [b3_n (by omega), e9, rd_j q2, rd_j q1, rd_j q0]
                    exact hb.x fr8 k (by omega)
            · refine ⟨fun z => absurd rfl z, fun _ => ?_⟩
              cases hF3 : bF3 N Y m (sk N Y a) with
              | none => exact absurd hF3 z
              | some x =>
                rw [hF3] at h ff8
                exact h u8 m (aRb_x fr8) ff8 (fun z => by simp at z)
    have e1 : bF1 N Y m (sk N Y a) = orf (num N Y 0 60 (sk N Y a)).1 (if m < 10 then none else some (3, sk N Y (sk N Y a))) := rfl
    have ff2 : fR (num N Y 0 60 (sk N Y a)).1 u2 := ff2
    have hv2 : (num N Y 0 60 (sk N Y a)).1 = none → a2 = bA1 N Y (sk N Y a) ∧ v2 = nI (num N Y 0 60 (sk N Y a)).2.1 := hv2
    refine R_fine ff2 (fun z => ?_) (fun z => ?_)
    · refine ⟨fun z => absurd z (by decide), fun _ => ?_⟩
      rw [L_10, nI_eq (by omega) (by omega)]
      refine ⟨fun q => ?_, fun q => ?_⟩
      · rw [if_pos (by omega), orf_n] at e1
        exact tail u2 a2 (fu.trans f2) t2 (by rw [e1]; exact ff2) (fun _ => (hv2 z).1)
      · rw [if_neg (by omega), hss] at e1
        rw [hu4]
        refine R_wrong (k := 3) ff2 (by decide) (by decide) (by omega) (fun u3 f3 g3 ff3 => ?_)
        exact tail u3 a2 ((fu.trans f2).trans f3) (t2.mv f3 (g3.trans t2.2.2.2.1) t2.2.1) (by rw [e1]; exact ff3) (fun q => by rw [e1] at q; exact absurd (orf_nn.mp q).2 (by simp))
    · refine ⟨fun _ => ?_, fun z => absurd rfl z⟩
      have e1' : bF1 N Y m (sk N Y a) = (num N Y 0 60 (sk N Y a)).1 := by
        rw [e1]
        cases hn : (num N Y 0 60 (sk N Y a)).1 with
        | none => exact absurd hn z
        | some x => rfl
      exact tail u2 a2 (fu.trans f2) t2 (by rw [e1']; exact ff2) (fun q => by rw [e1'] at q; exact absurd q z)
