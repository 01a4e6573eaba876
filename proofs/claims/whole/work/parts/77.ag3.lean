/-! agreements: firsts, counts, decades -/
def fd (T : Tb) (S : Nat → Nat) : Nat → Option Nat
  | 0 => none
  | d + 1 => match fd T S d with
    | none => if S d = 0 then none else some d
    | some a => if S d = 0 then some a else if tm T d < tm T a ∨ (tm T d = tm T a ∧ d < a) then some d else some a
def fdS (T : Tb) (S : Nat → Nat) (n : Nat) (x : Option Nat) : Prop := match x with
  | none => ∀ d, d < n → S d = 0
  | some a => a < n ∧ 0 < S a ∧ ∀ d, d < n → 0 < S d → d = a ∨ ahead T a d
theorem fd_s (T : Tb) (S : Nat → Nat) : ∀ n, fdS T S n (fd T S n) := by
  intro n
  induction n with
  | zero => intro d hd; omega
  | succ n ih =>
    unfold fd
    revert ih
    cases fd T S n with
    | none =>
      intro ih
      by_cases q : S n = 0
      · simp only [q, if_true]
        intro d hd
        rcases Nat.lt_or_ge d n with z | z
        · exact ih d z
        · rw [show d = n by omega]; exact q
      · simp only [q, if_false]
        refine ⟨by omega, by omega, fun d hd z => ?_⟩
        rcases Nat.lt_or_ge d n with z2 | z2
        · have := ih d z2; omega
        · left; omega
    | some a =>
      rintro ⟨h1, h2, h3⟩
      by_cases q : S n = 0
      · simp only [q, if_true]
        refine ⟨by omega, h2, fun d hd z => ?_⟩
        rcases Nat.lt_or_ge d n with z2 | z2
        · exact h3 d z2 z
        · rw [show d = n by omega] at z; omega
      · by_cases q2 : tm T n < tm T a ∨ (tm T n = tm T a ∧ n < a)
        · simp only [q, q2, if_true, if_false]
          refine ⟨by omega, by omega, fun d hd z => ?_⟩
          rcases Nat.lt_or_ge d n with z2 | z2
          · rcases h3 d z2 z with e | e
            · right; rw [e]; exact q2
            · right; exact ah_tr (b := a) q2 e
          · left; omega
        · simp only [q, q2, if_false]
          refine ⟨by omega, h2, fun d hd z => ?_⟩
          rcases Nat.lt_or_ge d n with z2 | z2
          · exact h3 d z2 z
          · right
            rw [show d = n by omega]
            exact ah_to q2 (by omega)
theorem fd_u {T : Tb} {S : Nat → Nat} {n : Nat} {x y : Option Nat} (hx : fdS T S n x) (hy : fdS T S n y) : x = y := by
  cases x with
  | none =>
    cases y with
    | none => rfl
    | some b => have := hx b hy.1; have := hy.2.1; omega
  | some a =>
    cases y with
    | none => have := hy a hx.1; have := hx.2.1; omega
    | some b =>
      rcases hx.2.2 b hy.1 hy.2.1 with e | e
      · rw [e]
      · rcases hy.2.2 a hx.1 hx.2.1 with e2 | e2
        · rw [e2]
        · exact absurd (ah_tr e e2) ah_ir
def gt1 (T : Tb) (S : Nat → Nat) : Nat → Option Nat × Nat
  | 0 => (none, 0)
  | c + 1 => if sm (oto S c) (T 7 1) ≤ (gt1 T S c).2 then gt1 T S c else (some c, sm (oto S c) (T 7 1))
theorem oto_le {T : Tb} {S : Nat → Nat} (ht : tb T) (h : rb T S) (c : Nat) : sm (oto S c) (T 7 1) ≤ 99990 := by
  have h1 := sm_le (f := oto S c) (b := 9999) (T 7 1) (fun k hk => by have := (h.1 k hk).1; unfold oto; split <;> omega)
  have h2 := tb_nd ht
  have : T 7 1 * 9999 ≤ 10 * 9999 := Nat.mul_le_mul_right _ h2
  omega
theorem gt_le {T : Tb} {S : Nat → Nat} (ht : tb T) (h : rb T S) : ∀ c, (gt1 T S c).2 ≤ 99990 := by
  intro c
  induction c with
  | zero => simp [gt1]
  | succ c ih =>
    unfold gt1
    split
    · exact ih
    · exact oto_le ht h c
def br1 (T : Tb) (k : Nat) : Nat → Option Nat
  | 0 => none
  | e + 1 => match br1 T k e with
    | none => some e
    | some b => if m_light T e k ≤ m_light T b k then some b else some e
theorem br_lt {T : Tb} {k : Nat} : ∀ e a, br1 T k e = some a → a < e := by
  intro e
  induction e with
  | zero => intro a h; cases h
  | succ e ih =>
    intro a
    unfold br1
    cases h2 : br1 T k e with
    | none => intro h; cases h; omega
    | some b =>
      have := ih b h2
      simp only
      split
      · intro h; cases h; omega
      · intro h; cases h; omega
def brv (T : Tb) (k : Nat) : Option Nat → Int32
  | none => -1
  | some b => nI (m_light T b k)
def eyF (T : Tb) (x : Nat) (p : Nat → Prop) : Nat → Option Nat → Prop
  | 0, r => r = none
  | f + 1, r => (p (99 - f) → r = some (99 - f)) ∧ (¬ p (99 - f) → eyF T x p f r)
theorem eyF_ex (T : Tb) (x : Nat) (p : Nat → Prop) : ∀ f, ∃ r, eyF T x p f r := by
  intro f
  induction f with
  | zero => exact ⟨none, rfl⟩
  | succ f ih =>
    rcases Classical.em (p (99 - f)) with q | q
    · exact ⟨some (99 - f), fun _ => rfl, fun z => absurd q z⟩
    · obtain ⟨r, hr⟩ := ih
      exact ⟨r, fun z => absurd z q, fun _ => hr⟩
def gnI (x0 x1 x2 : Int32) : Int32 := if x1 ≤ x2 then (if x1 = x2 then x0 / 2 - x1 else -(x1 / 2)) else x0 - x1
theorem K_gain {d : Nat} {x0 x1 x2 : Int32} {w : q_Sm} {Q : Int32 → q_Sm → Prop} {X : s_Xo} (h : Q (gnI x0 x1 x2) w) : s_EvI (d + 1) 0 mX0_gain w [.int x0, .int x1, .int x2] Q X := by
  apply eX0_gain
  unfold vX0_gain_0
  simp only [s_Ii]
  unfold gnI at h
  refine ⟨fun z => ⟨fun z2 => ?_, fun z2 => ?_⟩, fun z => ?_⟩
  · rw [if_pos z, if_neg z2] at h; exact h
  · rw [if_pos z, if_pos (Decidable.not_not.mp z2)] at h; exact h
  · rw [if_neg z] at h; exact h
theorem R_hasOf {d : Nat} {x0 x1 x2 : Int32} {w : q_Sm} {Q : Int32 → q_Sm → Prop} {X : s_Xo} (h : Q (gnI x0 x1 x2) w) : s_EvI (d + 1) 0 mX12_hasOf w [.int x0, .int x1, .int x2] Q X := by
  apply eX12_hasOf
  unfold vX12_hasOf_0
  simp only [s_Ii]
  unfold gnI at h
  refine ⟨fun z => ⟨fun z2 => ?_, fun z2 => ?_⟩, fun z => ?_⟩
  · rw [if_pos z, if_neg z2] at h; exact h
  · rw [if_pos z, if_pos (Decidable.not_not.mp z2)] at h; exact h
  · rw [if_neg z] at h; exact h
theorem ag_next (w : q_Sm) (hI : Inv w) : ag_D Inv 999 mX11_next mX12_next w [] := by
  obtain ⟨T, β, C, n, S, B, m, hC, hPst, hImg, hTp, hCnt⟩ := id hI
  have hE := hC.2.1
  have ht := hE.2.2.1
  have hRE := hC.2.2.1
  have hnc := tb_nc ht
  have hnd := tb_nd ht
  have hnw := tb_nw ht
  have hS := hC.2.2.2.1
  have hSr := hC.2.2.2.2.1
  have hok := hC.2.2.2.2.2.1
  have hβ := hE.ord
  refine agD_ok (oI (fd T S (T 7 1))) hI (fun Q X hQ => ?_) (fun u hu Q X hQ => ?_)
  · apply eX11_next
    unfold vX11_next_0
    refine K_firstDue hE (Or.inl rfl) hS hok.1.1 (fun x hx => ?_)
    rw [fd_u (x := x) (y := fd T S (T 7 1)) hx (fd_s T S (T 7 1))]
    exact ⟨_, rfl, hQ w (fr.refl _ _)⟩
  · have hCu := hC.sim hu
    have hE1 : RE T C n (q_wI u 79 0 0) := hCu.2.2.1.t
    have h79 : (q_wI u 79 0 0).1 79 0 = 0 := rd_s
    have hS1 : rR 104 S (q_wI u 79 0 0) := hCu.2.2.2.2.1.eq (fun j => rd_i (by omega))
    have hf1 : fr scr u (q_wI u 79 0 0) := scr_t
    apply eX12_next
    unfold vX12_next_0
    intro w1 hw1
    rw [← hw1] at hE1 h79 hS1 hf1
    have b := hok.1.1.1
    have loop : ∀ i, i ≤ T 7 1 → s_Ex (998 + 1) 0 mX12_next 9 [some (.ref 79), some (.int (oI (fd T S i))), some (.int (nI i))] [] w1 (s_I Q) X := by
      refine n_down ?_ ?_
      · apply xX12_next_9
        unfold vX12_next_9
        try simp (disch := omega) only [s_Ii, s_Jj, s_Vn, forall_eq, L_m1, nI_add, nI_clamp, nI_leI, nI_ltI, nI_eq, vp_nI, pk_mul, pk_sub, Nat.zero_add, Nat.add_zero, wr_2, Classical.not_not, true_and, and_true, ne_eq, false_implies, true_implies, implies_true, not_true_eq_false, not_false_eq_true, ia_0, ia_1, za_1, ia_2, za_2, ia_3, za_3, ia_4, za_4, ia_5, za_5, ia_6, za_6, ia_7, za_7, ia_8, za_8, ia_9, za_9, ia_10, za_10, ia_11, za_11, ia_12, za_12, ia_13, za_13, ia_14, za_14, ia_15, za_15, ib_0, ib_1, zb_1, ic_0, ic_1, ic_2, ic_3, zc_1, zc_2, zc_3, id_0, id_1, id_2, id_3, zd_1, zd_2, zd_3, L_0, L_1, L_2, L_3, L_4, L_5, L_6, L_7, L_8, L_9, L_10, L_11, L_12, L_13, L_14, L_15, L_16, L_17, L_18, L_19, L_20, L_24, L_27, L_30, L_31, L_32, L_35, L_36, L_40, L_41, L_43, L_44, L_45, L_46, L_47, L_48, L_50, L_54, L_57, L_58, L_59, L_60, L_61, L_62, L_63, L_91, L_93, L_96, L_97, L_98, L_99, L_100, L_103, L_122, L_145, L_150, L_200, L_255, L_600, L_999, L_1000, L_2000, L_9999, L_10000, L_32767, L_12345, oI_s, oI_n, L_mn, if_true, if_false, ite_true, ite_false, Bool.false_eq_true, Nat.reduceEqDiff, Nat.reduceLeDiff, Nat.reduceLT, Nat.reduceAdd, Nat.reduceSub, Nat.reduceMul, Nat.le_refl, Nat.lt_irrefl, Nat.not_lt_zero, hE1.nd]
        exact hQ _ hf1
      · intro i hi ih
        have b1 := b i hi
        have hfd := fd_s T S i
        unfold fd at ih
        apply xX12_next_9
        unfold vX12_next_9
        cases e : fd T S i with
        | none =>
          simp only [e] at ih
          try simp (disch := omega) only [s_Ii, s_Jj, s_Vn, forall_eq, L_m1, nI_add, nI_clamp, nI_leI, nI_ltI, nI_eq, vp_nI, pk_mul, pk_sub, Nat.zero_add, Nat.add_zero, wr_2, Classical.not_not, true_and, and_true, ne_eq, false_implies, true_implies, implies_true, not_true_eq_false, not_false_eq_true, ia_0, ia_1, za_1, ia_2, za_2, ia_3, za_3, ia_4, za_4, ia_5, za_5, ia_6, za_6, ia_7, za_7, ia_8, za_8, ia_9, za_9, ia_10, za_10, ia_11, za_11, ia_12, za_12, ia_13, za_13, ia_14, za_14, ia_15, za_15, ib_0, ib_1, zb_1, ic_0, ic_1, ic_2, ic_3, zc_1, zc_2, zc_3, id_0, id_1, id_2, id_3, zd_1, zd_2, zd_3, L_0, L_1, L_2, L_3, L_4, L_5, L_6, L_7, L_8, L_9, L_10, L_11, L_12, L_13, L_14, L_15, L_16, L_17, L_18, L_19, L_20, L_24, L_27, L_30, L_31, L_32, L_35, L_36, L_40, L_41, L_43, L_44, L_45, L_46, L_47, L_48, L_50, L_54, L_57, L_58, L_59, L_60, L_61, L_62, L_63, L_91, L_93, L_96, L_97, L_98, L_99, L_100, L_103, L_122, L_145, L_150, L_200, L_255, L_600, L_999, L_1000, L_2000, L_9999, L_10000, L_32767, L_12345, oI_s, oI_n, L_mn, if_true, if_false, ite_true, ite_false, Bool.false_eq_true, Nat.reduceEqDiff, Nat.reduceLeDiff, Nat.reduceLT, Nat.reduceAdd, Nat.reduceSub, Nat.reduceMul, Nat.le_refl, Nat.lt_irrefl, Nat.not_lt_zero, hE1.nd, hS1 _]
          refine ⟨fun z => absurd z (by omega), fun _ => ⟨by omega, fun z => ?_, fun z => ?_⟩⟩
          · rw [if_pos (by omega)] at ih
            exact ih
          · rw [if_neg (by omega)] at ih
            exact ih
        | some a =>
          rw [e] at hfd
          have ha := hfd.1
          simp only [e] at ih
          try simp (disch := omega) only [s_Ii, s_Jj, s_Vn, forall_eq, L_m1, nI_add, nI_clamp, nI_leI, nI_ltI, nI_eq, vp_nI, pk_mul, pk_sub, Nat.zero_add, Nat.add_zero, wr_2, Classical.not_not, true_and, and_true, ne_eq, false_implies, true_implies, implies_true, not_true_eq_false, not_false_eq_true, ia_0, ia_1, za_1, ia_2, za_2, ia_3, za_3, ia_4, za_4, ia_5, za_5, ia_6, za_6, ia_7, za_7, ia_8, za_8, ia_9, za_9, ia_10, za_10, ia_11, za_11, ia_12, za_12, ia_13, za_13, ia_14, za_14, ia_15, za_15, ib_0, ib_1, zb_1, ic_0, ic_1, ic_2, ic_3, zc_1, zc_2, zc_3, id_0, id_1, id_2, id_3, zd_1, zd_2, zd_3, L_0, L_1, L_2, L_3, L_4, L_5, L_6, L_7, L_8, L_9, L_10, L_11, L_12, L_13, L_14, L_15, L_16, L_17, L_18, L_19, L_20, L_24, L_27, L_30, L_31, L_32, L_35, L_36, L_40, L_41, L_43, L_44, L_45, L_46, L_47, L_48, L_50, L_54, L_57, L_58, L_59, L_60, L_61, L_62, L_63, L_91, L_93, L_96, L_97, L_98, L_99, L_100, L_103, L_122, L_145, L_150, L_200, L_255, L_600, L_999, L_1000, L_2000, L_9999, L_10000, L_32767, L_12345, oI_s, oI_n, L_mn, if_true, if_false, ite_true, ite_false, Bool.false_eq_true, Nat.reduceEqDiff, Nat.reduceLeDiff, Nat.reduceLT, Nat.reduceAdd, Nat.reduceSub, Nat.reduceMul, Nat.le_refl, Nat.lt_irrefl, Nat.not_lt_zero, hE1.nd, hS1 _]
          refine ⟨fun z => absurd z (by omega), fun _ => ⟨by omega, fun z => ?_, fun z => ?_⟩⟩
          · rw [if_pos (by omega)] at ih
            exact ih
          · rw [if_neg (by omega)] at ih
            refine R_isAhead hE1 hi (by omega) (fun q => ?_) (fun q => ?_)
            · rw [if_pos (show tm T i < tm T a ∨ (tm T i = tm T a ∧ i < a) from q)] at ih
              exact ⟨fun z => absurd z (by decide), fun _ => ih⟩
            · rw [if_neg (show ¬ (tm T i < tm T a ∨ (tm T i = tm T a ∧ i < a)) from q)] at ih
              exact ⟨fun _ => ih, fun z => absurd rfl z⟩
    exact loop 0 (Nat.zero_le _)
theorem ag_greatest (w : q_Sm) (hI : Inv w) : ag_D Inv 999 mX11_greatest mX12_greatest w [] := by
  obtain ⟨T, β, C, n, S, B, m, hC, hPst, hImg, hTp, hCnt⟩ := id hI
  have hE := hC.2.1
  have ht := hE.2.2.1
  have hRE := hC.2.2.1
  have hnc := tb_nc ht
  have hnd := tb_nd ht
  have hnw := tb_nw ht
  have hS := hC.2.2.2.1
  have hSr := hC.2.2.2.2.1
  have hok := hC.2.2.2.2.2.1
  have hβ := hE.ord
  refine agD_ok (oI (gt1 T S (T 7 0)).1) hI (fun Q X hQ => ?_) (fun u hu Q X hQ => ?_)
  · apply eX11_greatest
    unfold vX11_greatest_0
    have hoo := hE.1
    have loop : ∀ i, i ≤ T 7 0 → s_Ex (998 + 1) 0 mX11_greatest 6 [some (.ref 1), some (.int (oI (gt1 T S i).1)), some (.int (nI (gt1 T S i).2)), some (.int (nI i)), none] [] w (s_I Q) X := by
      refine n_down ?_ ?_
      · apply xX11_greatest_6
        unfold vX11_greatest_6
        try simp (disch := omega) only [s_Ii, s_Jj, s_Vn, forall_eq, L_m1, nI_add, nI_clamp, nI_leI, nI_ltI, nI_eq, vp_nI, pk_mul, pk_sub, Nat.zero_add, Nat.add_zero, wr_2, Classical.not_not, true_and, and_true, ne_eq, false_implies, true_implies, implies_true, not_true_eq_false, not_false_eq_true, ia_0, ia_1, za_1, ia_2, za_2, ia_3, za_3, ia_4, za_4, ia_5, za_5, ia_6, za_6, ia_7, za_7, ia_8, za_8, ia_9, za_9, ia_10, za_10, ia_11, za_11, ia_12, za_12, ia_13, za_13, ia_14, za_14, ia_15, za_15, ib_0, ib_1, zb_1, ic_0, ic_1, ic_2, ic_3, zc_1, zc_2, zc_3, id_0, id_1, id_2, id_3, zd_1, zd_2, zd_3, L_0, L_1, L_2, L_3, L_4, L_5, L_6, L_7, L_8, L_9, L_10, L_11, L_12, L_13, L_14, L_15, L_16, L_17, L_18, L_19, L_20, L_24, L_27, L_30, L_31, L_32, L_35, L_36, L_40, L_41, L_43, L_44, L_45, L_46, L_47, L_48, L_50, L_54, L_57, L_58, L_59, L_60, L_61, L_62, L_63, L_91, L_93, L_96, L_97, L_98, L_99, L_100, L_103, L_122, L_145, L_150, L_200, L_255, L_600, L_999, L_1000, L_2000, L_9999, L_10000, L_32767, L_12345, oI_s, oI_n, L_mn, if_true, if_false, ite_true, ite_false, Bool.false_eq_true, Nat.reduceEqDiff, Nat.reduceLeDiff, Nat.reduceLT, Nat.reduceAdd, Nat.reduceSub, Nat.reduceMul, Nat.le_refl, Nat.lt_irrefl, Nat.not_lt_zero, hE.nc]
        exact hQ w (fr.refl _ _)
      · intro i hi ih
        have b1 := oto_le ht hok.1.1 i
        have b2 := gt_le ht hok.1.1 i
        unfold gt1 at ih
        apply xX11_greatest_6
        unfold vX11_greatest_6
        try simp (disch := omega) only [s_Ii, s_Jj, s_Vn, forall_eq, L_m1, nI_add, nI_clamp, nI_leI, nI_ltI, nI_eq, vp_nI, pk_mul, pk_sub, Nat.zero_add, Nat.add_zero, wr_2, Classical.not_not, true_and, and_true, ne_eq, false_implies, true_implies, implies_true, not_true_eq_false, not_false_eq_true, ia_0, ia_1, za_1, ia_2, za_2, ia_3, za_3, ia_4, za_4, ia_5, za_5, ia_6, za_6, ia_7, za_7, ia_8, za_8, ia_9, za_9, ia_10, za_10, ia_11, za_11, ia_12, za_12, ia_13, za_13, ia_14, za_14, ia_15, za_15, ib_0, ib_1, zb_1, ic_0, ic_1, ic_2, ic_3, zc_1, zc_2, zc_3, id_0, id_1, id_2, id_3, zd_1, zd_2, zd_3, L_0, L_1, L_2, L_3, L_4, L_5, L_6, L_7, L_8, L_9, L_10, L_11, L_12, L_13, L_14, L_15, L_16, L_17, L_18, L_19, L_20, L_24, L_27, L_30, L_31, L_32, L_35, L_36, L_40, L_41, L_43, L_44, L_45, L_46, L_47, L_48, L_50, L_54, L_57, L_58, L_59, L_60, L_61, L_62, L_63, L_91, L_93, L_96, L_97, L_98, L_99, L_100, L_103, L_122, L_145, L_150, L_200, L_255, L_600, L_999, L_1000, L_2000, L_9999, L_10000, L_32767, L_12345, oI_s, oI_n, L_mn, if_true, if_false, ite_true, ite_false, Bool.false_eq_true, Nat.reduceEqDiff, Nat.reduceLeDiff, Nat.reduceLT, Nat.reduceAdd, Nat.reduceSub, Nat.reduceMul, Nat.le_refl, Nat.lt_irrefl, Nat.not_lt_zero, hE.nc]
        refine ⟨fun z => absurd z (by omega), fun _ => K_owedTo hE (Or.inl rfl) hS hok.1.1 (by omega) ?_⟩
        try simp (disch := omega) only [s_Ii, s_Jj, s_Vn, forall_eq, L_m1, nI_add, nI_clamp, nI_leI, nI_ltI, nI_eq, vp_nI, pk_mul, pk_sub, Nat.zero_add, Nat.add_zero, wr_2, Classical.not_not, true_and, and_true, ne_eq, false_implies, true_implies, implies_true, not_true_eq_false, not_false_eq_true, ia_0, ia_1, za_1, ia_2, za_2, ia_3, za_3, ia_4, za_4, ia_5, za_5, ia_6, za_6, ia_7, za_7, ia_8, za_8, ia_9, za_9, ia_10, za_10, ia_11, za_11, ia_12, za_12, ia_13, za_13, ia_14, za_14, ia_15, za_15, ib_0, ib_1, zb_1, ic_0, ic_1, ic_2, ic_3, zc_1, zc_2, zc_3, id_0, id_1, id_2, id_3, zd_1, zd_2, zd_3, L_0, L_1, L_2, L_3, L_4, L_5, L_6, L_7, L_8, L_9, L_10, L_11, L_12, L_13, L_14, L_15, L_16, L_17, L_18, L_19, L_20, L_24, L_27, L_30, L_31, L_32, L_35, L_36, L_40, L_41, L_43, L_44, L_45, L_46, L_47, L_48, L_50, L_54, L_57, L_58, L_59, L_60, L_61, L_62, L_63, L_91, L_93, L_96, L_97, L_98, L_99, L_100, L_103, L_122, L_145, L_150, L_200, L_255, L_600, L_999, L_1000, L_2000, L_9999, L_10000, L_32767, L_12345, oI_s, oI_n, L_mn, if_true, if_false, ite_true, ite_false, Bool.false_eq_true, Nat.reduceEqDiff, Nat.reduceLeDiff, Nat.reduceLT, Nat.reduceAdd, Nat.reduceSub, Nat.reduceMul, Nat.le_refl, Nat.lt_irrefl, Nat.not_lt_zero]
        refine ⟨fun z => ?_, fun z => ?_⟩
        · rw [if_pos z] at ih; exact ih
        · rw [if_neg z] at ih; exact ih
    exact loop 0 (Nat.zero_le _)
  · have hCu := hC.sim hu
    have hE1 : RE T C n (q_wI u 79 0 0) := hCu.2.2.1.t
    have h79 : (q_wI u 79 0 0).1 79 0 = 0 := rd_s
    have hS1 : rR 104 S (q_wI u 79 0 0) := hCu.2.2.2.2.1.eq (fun j => rd_i (by omega))
    have hf1 : fr scr u (q_wI u 79 0 0) := scr_t
    apply eX12_greatest
    unfold vX12_greatest_0
    intro w1 hw1
    rw [← hw1] at hE1 h79 hS1 hf1
    have loop : ∀ i, i ≤ T 7 0 → s_Ex (998 + 1) 0 mX12_greatest 11 [some (.ref 79), some (.int (oI (gt1 T S i).1)), some (.int (nI (gt1 T S i).2)), some (.int (nI i))] [] w1 (s_I Q) X := by
      refine n_down ?_ ?_
      · apply xX12_greatest_11
        unfold vX12_greatest_11
        try simp (disch := omega) only [s_Ii, s_Jj, s_Vn, forall_eq, L_m1, nI_add, nI_clamp, nI_leI, nI_ltI, nI_eq, vp_nI, pk_mul, pk_sub, Nat.zero_add, Nat.add_zero, wr_2, Classical.not_not, true_and, and_true, ne_eq, false_implies, true_implies, implies_true, not_true_eq_false, not_false_eq_true, ia_0, ia_1, za_1, ia_2, za_2, ia_3, za_3, ia_4, za_4, ia_5, za_5, ia_6, za_6, ia_7, za_7, ia_8, za_8, ia_9, za_9, ia_10, za_10, ia_11, za_11, ia_12, za_12, ia_13, za_13, ia_14, za_14, ia_15, za_15, ib_0, ib_1, zb_1, ic_0, ic_1, ic_2, ic_3, zc_1, zc_2, zc_3, id_0, id_1, id_2, id_3, zd_1, zd_2, zd_3, L_0, L_1, L_2, L_3, L_4, L_5, L_6, L_7, L_8, L_9, L_10, L_11, L_12, L_13, L_14, L_15, L_16, L_17, L_18, L_19, L_20, L_24, L_27, L_30, L_31, L_32, L_35, L_36, L_40, L_41, L_43, L_44, L_45, L_46, L_47, L_48, L_50, L_54, L_57, L_58, L_59, L_60, L_61, L_62, L_63, L_91, L_93, L_96, L_97, L_98, L_99, L_100, L_103, L_122, L_145, L_150, L_200, L_255, L_600, L_999, L_1000, L_2000, L_9999, L_10000, L_32767, L_12345, oI_s, oI_n, L_mn, if_true, if_false, ite_true, ite_false, Bool.false_eq_true, Nat.reduceEqDiff, Nat.reduceLeDiff, Nat.reduceLT, Nat.reduceAdd, Nat.reduceSub, Nat.reduceMul, Nat.le_refl, Nat.lt_irrefl, Nat.not_lt_zero, hE1.nc]
        exact hQ _ hf1
      · intro i hi ih
        have b1 := oto_le ht hok.1.1 i
        have b2 := gt_le ht hok.1.1 i
        unfold gt1 at ih
        apply xX12_greatest_11
        unfold vX12_greatest_11
        rw [hE1.nc]
        refine ⟨fun z => absurd z (nI_ge hi (by omega)), fun _ => R_owedTo hE1 hS1 hok.1.1 (by omega) ?_⟩
        try simp (disch := omega) only [s_Ii, s_Jj, s_Vn, forall_eq, L_m1, nI_add, nI_clamp, nI_leI, nI_ltI, nI_eq, vp_nI, pk_mul, pk_sub, Nat.zero_add, Nat.add_zero, wr_2, Classical.not_not, true_and, and_true, ne_eq, false_implies, true_implies, implies_true, not_true_eq_false, not_false_eq_true, ia_0, ia_1, za_1, ia_2, za_2, ia_3, za_3, ia_4, za_4, ia_5, za_5, ia_6, za_6, ia_7, za_7, ia_8, za_8, ia_9, za_9, ia_10, za_10, ia_11, za_11, ia_12, za_12, ia_13, za_13, ia_14, za_14, ia_15, za_15, ib_0, ib_1, zb_1, ic_0, ic_1, ic_2, ic_3, zc_1, zc_2, zc_3, id_0, id_1, id_2, id_3, zd_1, zd_2, zd_3, L_0, L_1, L_2, L_3, L_4, L_5, L_6, L_7, L_8, L_9, L_10, L_11, L_12, L_13, L_14, L_15, L_16, L_17, L_18, L_19, L_20, L_24, L_27, L_30, L_31, L_32, L_35, L_36, L_40, L_41, L_43, L_44, L_45, L_46, L_47, L_48, L_50, L_54, L_57, L_58, L_59, L_60, L_61, L_62, L_63, L_91, L_93, L_96, L_97, L_98, L_99, L_100, L_103, L_122, L_145, L_150, L_200, L_255, L_600, L_999, L_1000, L_2000, L_9999, L_10000, L_32767, L_12345, oI_s, oI_n, L_mn, if_true, if_false, ite_true, ite_false, Bool.false_eq_true, Nat.reduceEqDiff, Nat.reduceLeDiff, Nat.reduceLT, Nat.reduceAdd, Nat.reduceSub, Nat.reduceMul, Nat.le_refl, Nat.lt_irrefl, Nat.not_lt_zero]
        refine ⟨fun z => R_owedTo hE1 hS1 hok.1.1 (by omega) ?_, fun z => ?_⟩
        · rw [if_neg (by omega)] at ih; exact ih
        · rw [if_pos (by omega)] at ih; exact ih
    exact loop 0 (Nat.zero_le _)
theorem ag_brightest (w : q_Sm) (hI : Inv w) (x1 : Int32) : ag_W Inv 998 1 er_I mX11_brightest mX12_brightest w [.int x1] := by
  obtain ⟨T, β, C, n, S, B, m, hC, hPst, hImg, hTp, hCnt⟩ := id hI
  have hE := hC.2.1
  have ht := hE.2.2.1
  have hRE := hC.2.2.1
  have hnc := tb_nc ht
  have hnd := tb_nd ht
  have hnw := tb_nw ht
  have hS := hC.2.2.2.1
  have hSr := hC.2.2.2.2.1
  have hok := hC.2.2.2.2.2.1
  have hβ := hE.ord
  rcases rng x1 3 (by omega) with ⟨j1, g1, rfl⟩ | e0
  rotate_left
  · have e0 : r_in x1 0 3 = 0 := e0
    refine agW_no hI "java/lang/IllegalArgumentException" (nI 1) 14 1 (by omega) (⟨rfl, rfl⟩) (fun Q X hX => ?_) (fun u hu Q X hQ => ?_)
    · apply eX11_brightest
      unfold vX11_brightest_0
      refine K_isColour ?_
      rw [e0]
      exact K_req0 hX
    · have hE1 : RE T C n (q_wI u 79 0 0) := (hRE.n1 hu).t
      have h79 : (q_wI u 79 0 0).1 79 0 = 0 := rd_s
      apply eX12_brightest
      unfold vX12_brightest_0
      rintro _ rfl
      refine R_isColour ?_
      rw [e0]
      refine R_no (k := 1) (t := 1) (by omega) (by omega) (by omega) ?_
      first | exact ⟨fun _ => ⟨_, rfl, hQ⟩, fun z => absurd rfl z⟩ | exact ⟨fun z => absurd rfl z, fun _ => ⟨_, rfl, hQ⟩⟩
  have p0 : r_in (nI j1) 0 3 = 1 := r_in1 (a := 0) (b := 3) (by omega) (by omega) (by omega)
  refine agW_ok (oI (br1 T j1 (T 7 2))) hI (fun Q X hQ => ?_) (fun u hu Q X hQ => ?_)
  · apply eX11_brightest
    unfold vX11_brightest_0
    refine K_isColour ?_
    rw [p0]
    refine K_req1 ?_
    have hoo := hE.1
    have hnu := tb_nu ht
    have loop : ∀ i, i ≤ T 7 2 → s_Ex (998) 0 mX11_brightest 15 [some (.ref 1), some (.int (nI j1)), some (.int (oI (br1 T j1 i))), some (.int (brv T j1 (br1 T j1 i))), some (.int (nI i)), none] [] w (s_I Q) X := by
      refine n_down ?_ ?_
      · apply xX11_brightest_15
        unfold vX11_brightest_15
        try simp (disch := omega) only [s_Ii, s_Jj, s_Vn, forall_eq, L_m1, nI_add, nI_clamp, nI_leI, nI_ltI, nI_eq, vp_nI, pk_mul, pk_sub, Nat.zero_add, Nat.add_zero, wr_2, Classical.not_not, true_and, and_true, ne_eq, false_implies, true_implies, implies_true, not_true_eq_false, not_false_eq_true, ia_0, ia_1, za_1, ia_2, za_2, ia_3, za_3, ia_4, za_4, ia_5, za_5, ia_6, za_6, ia_7, za_7, ia_8, za_8, ia_9, za_9, ia_10, za_10, ia_11, za_11, ia_12, za_12, ia_13, za_13, ia_14, za_14, ia_15, za_15, ib_0, ib_1, zb_1, ic_0, ic_1, ic_2, ic_3, zc_1, zc_2, zc_3, id_0, id_1, id_2, id_3, zd_1, zd_2, zd_3, L_0, L_1, L_2, L_3, L_4, L_5, L_6, L_7, L_8, L_9, L_10, L_11, L_12, L_13, L_14, L_15, L_16, L_17, L_18, L_19, L_20, L_24, L_27, L_30, L_31, L_32, L_35, L_36, L_40, L_41, L_43, L_44, L_45, L_46, L_47, L_48, L_50, L_54, L_57, L_58, L_59, L_60, L_61, L_62, L_63, L_91, L_93, L_96, L_97, L_98, L_99, L_100, L_103, L_122, L_145, L_150, L_200, L_255, L_600, L_999, L_1000, L_2000, L_9999, L_10000, L_32767, L_12345, oI_s, oI_n, L_mn, if_true, if_false, ite_true, ite_false, Bool.false_eq_true, Nat.reduceEqDiff, Nat.reduceLeDiff, Nat.reduceLT, Nat.reduceAdd, Nat.reduceSub, Nat.reduceMul, Nat.le_refl, Nat.lt_irrefl, Nat.not_lt_zero, hE.nu]
        exact hQ w (fr.refl _ _)
      · intro i hi ih
        have b1 := m_light_le ht i (k := j1) (by omega)
        unfold br1 at ih
        apply xX11_brightest_15
        unfold vX11_brightest_15
        rw [hE.nu, nI_1]
        refine ⟨ia_0 hoo, fun z => absurd z (nI_ge hi (by omega)), fun _ => ⟨ia_0 hoo, K_shine hE (by omega) (by omega) ?_⟩⟩
        cases e : br1 T j1 i with
        | none =>
          simp only [e] at ih
          exact ⟨fun z => absurd (show nI (m_light T i j1) ≤ -1 from z) (fun q => absurd (Int32.le_trans (show nI 0 ≤ nI (m_light T i j1) from nI_le (Nat.zero_le _) (by omega)) q) (by decide)), fun _ => ih⟩
        | some b =>
          have b2 := m_light_le ht b (k := j1) (by omega)
          simp only [e] at ih
          refine ⟨fun z => ?_, fun z => ?_⟩
          · have z : nI (m_light T i j1) ≤ nI (m_light T b j1) := z
            rw [nI_leI (by omega) (by omega)] at z
            rw [if_pos z] at ih; exact ih
          · have z : ¬ nI (m_light T i j1) ≤ nI (m_light T b j1) := z
            rw [nI_leI (by omega) (by omega)] at z
            rw [if_neg z] at ih; exact ih
    exact loop 0 (Nat.zero_le _)
  · have hCu := hC.sim hu
    have hE1 : RE T C n (q_wI u 79 0 0) := hCu.2.2.1.t
    have h79 : (q_wI u 79 0 0).1 79 0 = 0 := rd_s
    have hS1 : rR 104 S (q_wI u 79 0 0) := hCu.2.2.2.2.1.eq (fun j => rd_i (by omega))
    have hf1 : fr scr u (q_wI u 79 0 0) := scr_t
    apply eX12_brightest
    unfold vX12_brightest_0
    intro w1 hw1
    rw [← hw1] at hE1 h79 hS1 hf1
    refine R_isColour ?_
    rw [p0]
    refine R_may1 h79 ?_
    first | refine ⟨fun z => absurd z (by decide), fun _ => ?_⟩ | refine ⟨fun _ => ?_, fun z => absurd (show ¬ (1 : Int32) = 0 by decide) z⟩
    have hnu := tb_nu ht
    have loop : ∀ i, i ≤ T 7 2 → s_Ex (998 + 1) 0 mX12_brightest 24 [some (.ref 79), some (.int (nI j1)), some (.int (oI (br1 T j1 i))), some (.int (nI i))] [] w1 (s_I Q) X := by
      refine n_down ?_ ?_
      · apply xX12_brightest_24
        unfold vX12_brightest_24
        try simp (disch := omega) only [s_Ii, s_Jj, s_Vn, forall_eq, L_m1, nI_add, nI_clamp, nI_leI, nI_ltI, nI_eq, vp_nI, pk_mul, pk_sub, Nat.zero_add, Nat.add_zero, wr_2, Classical.not_not, true_and, and_true, ne_eq, false_implies, true_implies, implies_true, not_true_eq_false, not_false_eq_true, ia_0, ia_1, za_1, ia_2, za_2, ia_3, za_3, ia_4, za_4, ia_5, za_5, ia_6, za_6, ia_7, za_7, ia_8, za_8, ia_9, za_9, ia_10, za_10, ia_11, za_11, ia_12, za_12, ia_13, za_13, ia_14, za_14, ia_15, za_15, ib_0, ib_1, zb_1, ic_0, ic_1, ic_2, ic_3, zc_1, zc_2, zc_3, id_0, id_1, id_2, id_3, zd_1, zd_2, zd_3, L_0, L_1, L_2, L_3, L_4, L_5, L_6, L_7, L_8, L_9, L_10, L_11, L_12, L_13, L_14, L_15, L_16, L_17, L_18, L_19, L_20, L_24, L_27, L_30, L_31, L_32, L_35, L_36, L_40, L_41, L_43, L_44, L_45, L_46, L_47, L_48, L_50, L_54, L_57, L_58, L_59, L_60, L_61, L_62, L_63, L_91, L_93, L_96, L_97, L_98, L_99, L_100, L_103, L_122, L_145, L_150, L_200, L_255, L_600, L_999, L_1000, L_2000, L_9999, L_10000, L_32767, L_12345, oI_s, oI_n, L_mn, if_true, if_false, ite_true, ite_false, Bool.false_eq_true, Nat.reduceEqDiff, Nat.reduceLeDiff, Nat.reduceLT, Nat.reduceAdd, Nat.reduceSub, Nat.reduceMul, Nat.le_refl, Nat.lt_irrefl, Nat.not_lt_zero, hE1.nu]
        exact hQ _ hf1 h79
      · intro i hi ih
        have b1 := m_light_le ht i (k := j1) (by omega)
        unfold br1 at ih
        apply xX12_brightest_24
        unfold vX12_brightest_24
        rw [hE1.nu, nI_1]
        refine ⟨fun z => absurd z (nI_ge hi (by omega)), fun _ => ?_⟩
        cases e : br1 T j1 i with
        | none =>
          simp only [e] at ih
          exact ⟨fun _ => ih, fun z => absurd rfl z⟩
        | some b =>
          have b2 := m_light_le ht b (k := j1) (by omega)
          have b3 := br_lt i b e
          simp only [e] at ih
          refine ⟨fun z => absurd ((oI_n (by omega)).mp z) (fun q => q), fun _ => R_lightOf hE1 (by omega) (by omega) (R_lightOf hE1 (e := b) (by omega) (by omega) ?_)⟩
          try simp (disch := omega) only [s_Ii, s_Jj, s_Vn, forall_eq, L_m1, nI_add, nI_clamp, nI_leI, nI_ltI, nI_eq, vp_nI, pk_mul, pk_sub, Nat.zero_add, Nat.add_zero, wr_2, Classical.not_not, true_and, and_true, ne_eq, false_implies, true_implies, implies_true, not_true_eq_false, not_false_eq_true, ia_0, ia_1, za_1, ia_2, za_2, ia_3, za_3, ia_4, za_4, ia_5, za_5, ia_6, za_6, ia_7, za_7, ia_8, za_8, ia_9, za_9, ia_10, za_10, ia_11, za_11, ia_12, za_12, ia_13, za_13, ia_14, za_14, ia_15, za_15, ib_0, ib_1, zb_1, ic_0, ic_1, ic_2, ic_3, zc_1, zc_2, zc_3, id_0, id_1, id_2, id_3, zd_1, zd_2, zd_3, L_0, L_1, L_2, L_3, L_4, L_5, L_6, L_7, L_8, L_9, L_10, L_11, L_12, L_13, L_14, L_15, L_16, L_17, L_18, L_19, L_20, L_24, L_27, L_30, L_31, L_32, L_35, L_36, L_40, L_41, L_43, L_44, L_45, L_46, L_47, L_48, L_50, L_54, L_57, L_58, L_59, L_60, L_61, L_62, L_63, L_91, L_93, L_96, L_97, L_98, L_99, L_100, L_103, L_122, L_145, L_150, L_200, L_255, L_600, L_999, L_1000, L_2000, L_9999, L_10000, L_32767, L_12345, oI_s, oI_n, L_mn, if_true, if_false, ite_true, ite_false, Bool.false_eq_true, Nat.reduceEqDiff, Nat.reduceLeDiff, Nat.reduceLT, Nat.reduceAdd, Nat.reduceSub, Nat.reduceMul, Nat.le_refl, Nat.lt_irrefl, Nat.not_lt_zero]
          refine ⟨fun z => ?_, fun z => ?_⟩
          · rw [if_pos z] at ih; exact ih
          · rw [if_neg z] at ih; exact ih
    exact loop 0 (Nat.zero_le _)
theorem ag_eyes (w : q_Sm) (hI : Inv w) (x1 : Int32) : ag_W Inv 998 1 er_I mX11_eyes mX12_eyes w [.int x1] := by
  obtain ⟨T, β, C, n, S, B, m, hC, hPst, hImg, hTp, hCnt⟩ := id hI
  have hE := hC.2.1
  have ht := hE.2.2.1
  have hRE := hC.2.2.1
  have hnc := tb_nc ht
  have hnd := tb_nd ht
  have hnw := tb_nw ht
  have hS := hC.2.2.2.1
  have hSr := hC.2.2.2.2.1
  have hok := hC.2.2.2.2.2.1
  have hβ := hE.ord
  rcases rng x1 19 (by omega) with ⟨j1, g1, rfl⟩ | e0
  rotate_left
  · have e0 : r_in x1 0 19 = 0 := e0
    refine agW_no hI "java/lang/IllegalArgumentException" (nI 1) 14 1 (by omega) (⟨rfl, rfl⟩) (fun Q X hX => ?_) (fun u hu Q X hQ => ?_)
    · apply eX11_eyes
      unfold vX11_eyes_0
      refine K_isIn ?_
      rw [e0]
      exact K_req0 hX
    · have hE1 : RE T C n (q_wI u 79 0 0) := (hRE.n1 hu).t
      have h79 : (q_wI u 79 0 0).1 79 0 = 0 := rd_s
      apply eX12_eyes
      unfold vX12_eyes_0
      rintro _ rfl
      refine R_within ?_
      rw [e0]
      refine R_no (k := 1) (t := 1) (by omega) (by omega) (by omega) ?_
      first | exact ⟨fun _ => ⟨_, rfl, hQ⟩, fun z => absurd rfl z⟩ | exact ⟨fun z => absurd rfl z, fun _ => ⟨_, rfl, hQ⟩⟩
  have p0 : r_in (nI j1) 0 19 = 1 := r_in1 (a := 0) (b := 19) (by omega) (by omega) (by omega)
  obtain ⟨r, hr⟩ := eyF_ex T j1 (see T j1) 100
  refine agW_ok (oI r) hI (fun Q X hQ => ?_) (fun u hu Q X hQ => ?_)
  · apply eX11_eyes
    unfold vX11_eyes_0
    refine K_isIn ?_
    rw [p0]
    refine K_req1 ?_
    have hoo := hE.1
    have loop : ∀ i, i ≤ 100 → eyF T j1 (see T j1) (100 - i) r → s_Ex (998) 0 mX11_eyes 13 [some (.ref 1), some (.int (nI j1)), some (.int (nI i))] [] w (s_I Q) X := by
      refine n_down ?_ ?_
      · intro h
        apply xX11_eyes_13
        unfold vX11_eyes_13
        try simp (disch := omega) only [s_Ii, s_Jj, s_Vn, forall_eq, L_m1, nI_add, nI_clamp, nI_leI, nI_ltI, nI_eq, vp_nI, pk_mul, pk_sub, Nat.zero_add, Nat.add_zero, wr_2, Classical.not_not, true_and, and_true, ne_eq, false_implies, true_implies, implies_true, not_true_eq_false, not_false_eq_true, ia_0, ia_1, za_1, ia_2, za_2, ia_3, za_3, ia_4, za_4, ia_5, za_5, ia_6, za_6, ia_7, za_7, ia_8, za_8, ia_9, za_9, ia_10, za_10, ia_11, za_11, ia_12, za_12, ia_13, za_13, ia_14, za_14, ia_15, za_15, ib_0, ib_1, zb_1, ic_0, ic_1, ic_2, ic_3, zc_1, zc_2, zc_3, id_0, id_1, id_2, id_3, zd_1, zd_2, zd_3, L_0, L_1, L_2, L_3, L_4, L_5, L_6, L_7, L_8, L_9, L_10, L_11, L_12, L_13, L_14, L_15, L_16, L_17, L_18, L_19, L_20, L_24, L_27, L_30, L_31, L_32, L_35, L_36, L_40, L_41, L_43, L_44, L_45, L_46, L_47, L_48, L_50, L_54, L_57, L_58, L_59, L_60, L_61, L_62, L_63, L_91, L_93, L_96, L_97, L_98, L_99, L_100, L_103, L_122, L_145, L_150, L_200, L_255, L_600, L_999, L_1000, L_2000, L_9999, L_10000, L_32767, L_12345, oI_s, oI_n, L_mn, if_true, if_false, ite_true, ite_false, Bool.false_eq_true, Nat.reduceEqDiff, Nat.reduceLeDiff, Nat.reduceLT, Nat.reduceAdd, Nat.reduceSub, Nat.reduceMul, Nat.le_refl, Nat.lt_irrefl, Nat.not_lt_zero]
        have h : r = none := h
        rw [h] at hQ
        exact hQ w (fr.refl _ _)
      · intro i hi ih h
        obtain ⟨f, hf⟩ : ∃ f, 100 - i = f + 1 := ⟨99 - i, by omega⟩
        rw [hf] at h
        rw [show i = 99 - f by omega]
        apply xX11_eyes_13
        unfold vX11_eyes_13
        try simp (disch := omega) only [s_Ii, s_Jj, s_Vn, forall_eq, L_m1, nI_add, nI_clamp, nI_leI, nI_ltI, nI_eq, vp_nI, pk_mul, pk_sub, Nat.zero_add, Nat.add_zero, wr_2, Classical.not_not, true_and, and_true, ne_eq, false_implies, true_implies, implies_true, not_true_eq_false, not_false_eq_true, ia_0, ia_1, za_1, ia_2, za_2, ia_3, za_3, ia_4, za_4, ia_5, za_5, ia_6, za_6, ia_7, za_7, ia_8, za_8, ia_9, za_9, ia_10, za_10, ia_11, za_11, ia_12, za_12, ia_13, za_13, ia_14, za_14, ia_15, za_15, ib_0, ib_1, zb_1, ic_0, ic_1, ic_2, ic_3, zc_1, zc_2, zc_3, id_0, id_1, id_2, id_3, zd_1, zd_2, zd_3, L_0, L_1, L_2, L_3, L_4, L_5, L_6, L_7, L_8, L_9, L_10, L_11, L_12, L_13, L_14, L_15, L_16, L_17, L_18, L_19, L_20, L_24, L_27, L_30, L_31, L_32, L_35, L_36, L_40, L_41, L_43, L_44, L_45, L_46, L_47, L_48, L_50, L_54, L_57, L_58, L_59, L_60, L_61, L_62, L_63, L_91, L_93, L_96, L_97, L_98, L_99, L_100, L_103, L_122, L_145, L_150, L_200, L_255, L_600, L_999, L_1000, L_2000, L_9999, L_10000, L_32767, L_12345, oI_s, oI_n, L_mn, if_true, if_false, ite_true, ite_false, Bool.false_eq_true, Nat.reduceEqDiff, Nat.reduceLeDiff, Nat.reduceLT, Nat.reduceAdd, Nat.reduceSub, Nat.reduceMul, Nat.le_refl, Nat.lt_irrefl, Nat.not_lt_zero]
        refine ⟨fun z => absurd z (by omega), fun _ => K_showsSea hE (by omega) (by omega) (fun q => ?_) (fun q => ?_)⟩
        · rw [h.1 q] at hQ
          exact ⟨fun z => absurd z (by decide), fun _ => hQ w (fr.refl _ _)⟩
        · refine ⟨fun _ => ?_, fun z => absurd rfl z⟩
          rw [show 99 - f + 1 = i + 1 by omega]
          exact ih (by rw [show 100 - (i + 1) = f by omega]; exact h.2 q)
    exact loop 0 (by omega) hr
  · have hCu := hC.sim hu
    have hE1 : RE T C n (q_wI u 79 0 0) := hCu.2.2.1.t
    have h79 : (q_wI u 79 0 0).1 79 0 = 0 := rd_s
    have hS1 : rR 104 S (q_wI u 79 0 0) := hCu.2.2.2.2.1.eq (fun j => rd_i (by omega))
    have hf1 : fr scr u (q_wI u 79 0 0) := scr_t
    apply eX12_eyes
    unfold vX12_eyes_0
    intro w1 hw1
    rw [← hw1] at hE1 h79 hS1 hf1
    refine R_within ?_
    rw [p0]
    refine R_may1 h79 ?_
    first | refine ⟨fun z => absurd z (by decide), fun _ => ?_⟩ | refine ⟨fun _ => ?_, fun z => absurd (show ¬ (1 : Int32) = 0 by decide) z⟩
    have loop : ∀ i, i ≤ 100 → eyF T j1 (see T j1) (100 - i) r → s_Ex (998 + 1) 0 mX12_eyes 25 [some (.ref 79), some (.int (nI j1)), some (.int (nI i))] [] w1 (s_I Q) X := by
      refine n_down ?_ ?_
      · intro h
        apply xX12_eyes_25
        unfold vX12_eyes_25
        try simp (disch := omega) only [s_Ii, s_Jj, s_Vn, forall_eq, L_m1, nI_add, nI_clamp, nI_leI, nI_ltI, nI_eq, vp_nI, pk_mul, pk_sub, Nat.zero_add, Nat.add_zero, wr_2, Classical.not_not, true_and, and_true, ne_eq, false_implies, true_implies, implies_true, not_true_eq_false, not_false_eq_true, ia_0, ia_1, za_1, ia_2, za_2, ia_3, za_3, ia_4, za_4, ia_5, za_5, ia_6, za_6, ia_7, za_7, ia_8, za_8, ia_9, za_9, ia_10, za_10, ia_11, za_11, ia_12, za_12, ia_13, za_13, ia_14, za_14, ia_15, za_15, ib_0, ib_1, zb_1, ic_0, ic_1, ic_2, ic_3, zc_1, zc_2, zc_3, id_0, id_1, id_2, id_3, zd_1, zd_2, zd_3, L_0, L_1, L_2, L_3, L_4, L_5, L_6, L_7, L_8, L_9, L_10, L_11, L_12, L_13, L_14, L_15, L_16, L_17, L_18, L_19, L_20, L_24, L_27, L_30, L_31, L_32, L_35, L_36, L_40, L_41, L_43, L_44, L_45, L_46, L_47, L_48, L_50, L_54, L_57, L_58, L_59, L_60, L_61, L_62, L_63, L_91, L_93, L_96, L_97, L_98, L_99, L_100, L_103, L_122, L_145, L_150, L_200, L_255, L_600, L_999, L_1000, L_2000, L_9999, L_10000, L_32767, L_12345, oI_s, oI_n, L_mn, if_true, if_false, ite_true, ite_false, Bool.false_eq_true, Nat.reduceEqDiff, Nat.reduceLeDiff, Nat.reduceLT, Nat.reduceAdd, Nat.reduceSub, Nat.reduceMul, Nat.le_refl, Nat.lt_irrefl, Nat.not_lt_zero]
        have h : r = none := h
        rw [h] at hQ
        exact hQ _ hf1 h79
      · intro i hi ih h
        obtain ⟨f, hf⟩ : ∃ f, 100 - i = f + 1 := ⟨99 - i, by omega⟩
        rw [hf] at h
        rw [show i = 99 - f by omega]
        apply xX12_eyes_25
        unfold vX12_eyes_25
        try simp (disch := omega) only [s_Ii, s_Jj, s_Vn, forall_eq, L_m1, nI_add, nI_clamp, nI_leI, nI_ltI, nI_eq, vp_nI, pk_mul, pk_sub, Nat.zero_add, Nat.add_zero, wr_2, Classical.not_not, true_and, and_true, ne_eq, false_implies, true_implies, implies_true, not_true_eq_false, not_false_eq_true, ia_0, ia_1, za_1, ia_2, za_2, ia_3, za_3, ia_4, za_4, ia_5, za_5, ia_6, za_6, ia_7, za_7, ia_8, za_8, ia_9, za_9, ia_10, za_10, ia_11, za_11, ia_12, za_12, ia_13, za_13, ia_14, za_14, ia_15, za_15, ib_0, ib_1, zb_1, ic_0, ic_1, ic_2, ic_3, zc_1, zc_2, zc_3, id_0, id_1, id_2, id_3, zd_1, zd_2, zd_3, L_0, L_1, L_2, L_3, L_4, L_5, L_6, L_7, L_8, L_9, L_10, L_11, L_12, L_13, L_14, L_15, L_16, L_17, L_18, L_19, L_20, L_24, L_27, L_30, L_31, L_32, L_35, L_36, L_40, L_41, L_43, L_44, L_45, L_46, L_47, L_48, L_50, L_54, L_57, L_58, L_59, L_60, L_61, L_62, L_63, L_91, L_93, L_96, L_97, L_98, L_99, L_100, L_103, L_122, L_145, L_150, L_200, L_255, L_600, L_999, L_1000, L_2000, L_9999, L_10000, L_32767, L_12345, oI_s, oI_n, L_mn, if_true, if_false, ite_true, ite_false, Bool.false_eq_true, Nat.reduceEqDiff, Nat.reduceLeDiff, Nat.reduceLT, Nat.reduceAdd, Nat.reduceSub, Nat.reduceMul, Nat.le_refl, Nat.lt_irrefl, Nat.not_lt_zero]
        refine ⟨fun z => absurd z (by omega), fun _ => R_seesFrom hE1 (by omega) (by omega) (fun q => ?_) (fun q => ?_)⟩
        · rw [h.1 q] at hQ
          exact ⟨fun z => absurd z (by decide), fun _ => hQ _ hf1 h79⟩
        · refine ⟨fun _ => ?_, fun z => absurd rfl z⟩
          rw [show 99 - f + 1 = i + 1 by omega]
          exact ih (by rw [show 100 - (i + 1) = f by omega]; exact h.2 q)
    exact loop 0 (by omega) hr
theorem ag_has (w : q_Sm) (hI : Inv w) (x1 : Int32) (x2 : Int32) (x3 : Int32) (x4 : Int32) : ag_W Inv 998 1 er_I mX11_has mX12_has w [.int x1, .int x2, .int x3, .int x4] := by
  obtain ⟨T, β, C, n, S, B, m, hC, hPst, hImg, hTp, hCnt⟩ := id hI
  have hE := hC.2.1
  have ht := hE.2.2.1
  have hRE := hC.2.2.1
  have hnc := tb_nc ht
  have hnd := tb_nd ht
  have hnw := tb_nw ht
  have hS := hC.2.2.2.1
  have hSr := hC.2.2.2.2.1
  have hok := hC.2.2.2.2.2.1
  have hβ := hE.ord
  rcases rng x1 200 (by omega) with ⟨j1, g1, rfl⟩ | e0
  rotate_left
  · have e0 : r_in x1 0 200 = 0 := e0
    refine agW_no hI "java/lang/IllegalArgumentException" (nI 1) 14 1 (by omega) (⟨rfl, rfl⟩) (fun Q X hX => ?_) (fun u hu Q X hQ => ?_)
    · apply eX11_has
      unfold vX11_has_0
      refine K_isDusk ?_
      rw [e0]
      exact ⟨fun _ => K_req0 hX, fun z => absurd rfl z⟩
    · have hE1 : RE T C n (q_wI u 79 0 0) := (hRE.n1 hu).t
      have h79 : (q_wI u 79 0 0).1 79 0 = 0 := rd_s
      apply eX12_has
      unfold vX12_has_0
      rintro _ rfl
      refine R_isDusk ?_
      rw [e0]
      refine ⟨fun _ => R_no (k := 1) (t := 1) (by omega) (by omega) (by omega) ?_, fun z => absurd rfl z⟩
      first | exact ⟨fun _ => ⟨_, rfl, hQ⟩, fun z => absurd rfl z⟩ | exact ⟨fun z => absurd rfl z, fun _ => ⟨_, rfl, hQ⟩⟩
  have p0 : r_in (nI j1) 0 200 = 1 := r_in1 (a := 0) (b := 200) (by omega) (by omega) (by omega)
  rcases rng x2 3 (by omega) with ⟨j2, g2, rfl⟩ | e1
  rotate_left
  · have e1 : r_in x2 0 3 = 0 := e1
    refine agW_no hI "java/lang/IllegalArgumentException" (nI 1) 14 1 (by omega) (⟨rfl, rfl⟩) (fun Q X hX => ?_) (fun u hu Q X hQ => ?_)
    · apply eX11_has
      unfold vX11_has_0
      refine K_isDusk ?_
      rw [p0]
      refine ⟨fun z => absurd z (by decide), fun _ => ?_⟩
      refine K_isColour ?_
      rw [e1]
      exact ⟨fun _ => K_req0 hX, fun z => absurd rfl z⟩
    · have hE1 : RE T C n (q_wI u 79 0 0) := (hRE.n1 hu).t
      have h79 : (q_wI u 79 0 0).1 79 0 = 0 := rd_s
      apply eX12_has
      unfold vX12_has_0
      rintro _ rfl
      refine R_isDusk ?_
      rw [p0]
      refine ⟨fun z => absurd z (by decide), fun _ => ?_⟩
      refine R_isColour ?_
      rw [e1]
      refine ⟨fun _ => R_no (k := 1) (t := 1) (by omega) (by omega) (by omega) ?_, fun z => absurd rfl z⟩
      first | exact ⟨fun _ => ⟨_, rfl, hQ⟩, fun z => absurd rfl z⟩ | exact ⟨fun z => absurd rfl z, fun _ => ⟨_, rfl, hQ⟩⟩
  have p1 : r_in (nI j2) 0 3 = 1 := r_in1 (a := 0) (b := 3) (by omega) (by omega) (by omega)
  rcases rng x3 99 (by omega) with ⟨j3, g3, rfl⟩ | e2
  rotate_left
  · have e2 : r_in x3 0 99 = 0 := e2
    refine agW_no hI "java/lang/IllegalArgumentException" (nI 1) 14 1 (by omega) (⟨rfl, rfl⟩) (fun Q X hX => ?_) (fun u hu Q X hQ => ?_)
    · apply eX11_has
      unfold vX11_has_0
      refine K_isDusk ?_
      rw [p0]
      refine ⟨fun z => absurd z (by decide), fun _ => ?_⟩
      refine K_isColour ?_
      rw [p1]
      refine ⟨fun z => absurd z (by decide), fun _ => ?_⟩
      refine K_isIn ?_
      rw [e2]
      exact ⟨fun _ => K_req0 hX, fun z => absurd rfl z⟩
    · have hE1 : RE T C n (q_wI u 79 0 0) := (hRE.n1 hu).t
      have h79 : (q_wI u 79 0 0).1 79 0 = 0 := rd_s
      apply eX12_has
      unfold vX12_has_0
      rintro _ rfl
      refine R_isDusk ?_
      rw [p0]
      refine ⟨fun z => absurd z (by decide), fun _ => ?_⟩
      refine R_isColour ?_
      rw [p1]
      refine ⟨fun z => absurd z (by decide), fun _ => ?_⟩
      refine R_within ?_
      rw [e2]
      refine ⟨fun _ => R_no (k := 1) (t := 1) (by omega) (by omega) (by omega) ?_, fun z => absurd rfl z⟩
      first | exact ⟨fun _ => ⟨_, rfl, hQ⟩, fun z => absurd rfl z⟩ | exact ⟨fun z => absurd rfl z, fun _ => ⟨_, rfl, hQ⟩⟩
  have p2 : r_in (nI j3) 0 99 = 1 := r_in1 (a := 0) (b := 99) (by omega) (by omega) (by omega)
  rcases rng x4 99 (by omega) with ⟨j4, g4, rfl⟩ | e3
  rotate_left
  · have e3 : r_in x4 0 99 = 0 := e3
    refine agW_no hI "java/lang/IllegalArgumentException" (nI 1) 14 1 (by omega) (⟨rfl, rfl⟩) (fun Q X hX => ?_) (fun u hu Q X hQ => ?_)
    · apply eX11_has
      unfold vX11_has_0
      refine K_isDusk ?_
      rw [p0]
      refine ⟨fun z => absurd z (by decide), fun _ => ?_⟩
      refine K_isColour ?_
      rw [p1]
      refine ⟨fun z => absurd z (by decide), fun _ => ?_⟩
      refine K_isIn ?_
      rw [p2]
      refine ⟨fun z => absurd z (by decide), fun _ => ?_⟩
      refine K_isIn ?_
      rw [e3]
      exact ⟨fun _ => K_req0 hX, fun z => absurd rfl z⟩
    · have hE1 : RE T C n (q_wI u 79 0 0) := (hRE.n1 hu).t
      have h79 : (q_wI u 79 0 0).1 79 0 = 0 := rd_s
      apply eX12_has
      unfold vX12_has_0
      rintro _ rfl
      refine R_isDusk ?_
      rw [p0]
      refine ⟨fun z => absurd z (by decide), fun _ => ?_⟩
      refine R_isColour ?_
      rw [p1]
      refine ⟨fun z => absurd z (by decide), fun _ => ?_⟩
      refine R_within ?_
      rw [p2]
      refine ⟨fun z => absurd z (by decide), fun _ => ?_⟩
      refine R_within ?_
      rw [e3]
      refine ⟨fun _ => R_no (k := 1) (t := 1) (by omega) (by omega) (by omega) ?_, fun z => absurd rfl z⟩
      first | exact ⟨fun _ => ⟨_, rfl, hQ⟩, fun z => absurd rfl z⟩ | exact ⟨fun z => absurd rfl z, fun _ => ⟨_, rfl, hQ⟩⟩
  have p3 : r_in (nI j4) 0 99 = 1 := r_in1 (a := 0) (b := 99) (by omega) (by omega) (by omega)
  refine agW_ok (gnI (nI (m_light T j1 j2)) (nI j3) (nI j4)) hI (fun Q X hQ => ?_) (fun u hu Q X hQ => ?_)
  · apply eX11_has
    unfold vX11_has_0
    refine K_isDusk ?_
    rw [p0]
    refine ⟨fun z => absurd z (by decide), fun _ => ?_⟩
    refine K_isColour ?_
    rw [p1]
    refine ⟨fun z => absurd z (by decide), fun _ => ?_⟩
    refine K_isIn ?_
    rw [p2]
    refine ⟨fun z => absurd z (by decide), fun _ => ?_⟩
    refine K_isIn ?_
    rw [p3]
    refine ⟨fun z => absurd z (by decide), fun _ => K_req1 ?_⟩
    exact ⟨ia_0 hE.1, K_shine hE (by omega) (by omega) (K_gain ⟨_, rfl, hQ w (fr.refl _ _)⟩)⟩
  · have hCu := hC.sim hu
    have hE1 : RE T C n (q_wI u 79 0 0) := hCu.2.2.1.t
    have h79 : (q_wI u 79 0 0).1 79 0 = 0 := rd_s
    have hS1 : rR 104 S (q_wI u 79 0 0) := hCu.2.2.2.2.1.eq (fun j => rd_i (by omega))
    have hf1 : fr scr u (q_wI u 79 0 0) := scr_t
    apply eX12_has
    unfold vX12_has_0
    intro w1 hw1
    rw [← hw1] at hE1 h79 hS1 hf1
    refine R_isDusk ?_
    rw [p0]
    refine ⟨fun z => absurd z (by decide), fun _ => ?_⟩
    refine R_isColour ?_
    rw [p1]
    refine ⟨fun z => absurd z (by decide), fun _ => ?_⟩
    refine R_within ?_
    rw [p2]
    refine ⟨fun z => absurd z (by decide), fun _ => ?_⟩
    refine R_within ?_
    rw [p3]
    refine ⟨fun z => absurd z (by decide), fun _ => R_may1 h79 ?_⟩
    first | refine ⟨fun z => absurd z (by decide), fun _ => ?_⟩ | refine ⟨fun _ => ?_, fun z => absurd (show ¬ (1 : Int32) = 0 by decide) z⟩
    exact R_lightOf hE1 (by omega) (by omega) (R_hasOf ⟨_, rfl, hQ _ hf1 h79⟩)
theorem ag_fault (w : q_Sm) (hI : Inv w) : ag_D Inv 999 mX11_fault mX12_fault w [] := by
  obtain ⟨T, β, C, n, S, B, m, hC, hPst, hImg, hTp, hCnt⟩ := id hI
  have hE := hC.2.1
  have ht := hE.2.2.1
  have hRE := hC.2.2.1
  have hnc := tb_nc ht
  have hnd := tb_nd ht
  have hnw := tb_nw ht
  have hS := hC.2.2.2.1
  have hSr := hC.2.2.2.2.1
  have hok := hC.2.2.2.2.2.1
  have hβ := hE.ord
  refine agD_ok (w.1 2 6) hI (fun Q X hQ => ?_) (fun u hu Q X hQ => ?_)
  · apply eX11_fault
    unfold vX11_fault_0
    apply eX10_faultPlace
    unfold vX10_faultPlace_0
    exact ⟨_, rfl, ⟨_, rfl, hQ w (fr.refl _ _)⟩⟩
  · have hCu := hC.sim hu
    have hE1 : RE T C n (q_wI u 79 0 0) := hCu.2.2.1.t
    have h79 : (q_wI u 79 0 0).1 79 0 = 0 := rd_s
    have hS1 : rR 104 S (q_wI u 79 0 0) := hCu.2.2.2.2.1.eq (fun j => rd_i (by omega))
    have hf1 : fr scr u (q_wI u 79 0 0) := scr_t
    apply eX12_fault
    unfold vX12_fault_0
    intro w1 hw1
    rw [← hw1] at hE1 h79 hS1 hf1
    have e : w1.1 79 8 = w.1 2 6 := (hf1.2 _ _ rfl).trans ((hu.2 _ _ rfl).trans hCnt.2.2.2.1.symm)
    rw [e]
    exact ⟨_, rfl, hQ _ hf1⟩
