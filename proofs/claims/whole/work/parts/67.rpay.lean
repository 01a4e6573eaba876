/-! the same on the reference's side -/
theorem L_mn : -(nI 1) = oI none := rfl
def gm (β : Nat → Nat) : Nat → Nat
  | 0 => 0
  | i + 1 => gm β i ||| 2 ^ β i
theorem gm_t {β : Nat → Nat} {d : Nat} : ∀ i, (gm β i).testBit d = true ↔ ∃ j, j < i ∧ β j = d := by
  intro i
  induction i with
  | zero => simp [gm]
  | succ i ih =>
    unfold gm
    rw [Nat.testBit_or, Bool.or_eq_true, ih, Nat.testBit_two_pow]
    constructor
    · rintro (⟨j, hj, e⟩ | e)
      · exact ⟨j, by omega, e⟩
      · exact ⟨i, by omega, by simpa using e⟩
    · rintro ⟨j, hj, e⟩
      by_cases q : j = i
      · right; subst q; simpa using e
      · left; exact ⟨j, by omega, e⟩
theorem gm_lt {β : Nat → Nat} {n : Nat} (h : ∀ i, i < n → β i < 10) : ∀ i, i ≤ n → gm β i < 2 ^ 10 := by
  intro i
  induction i with
  | zero => intro _; simp [gm]
  | succ i ih =>
    intro hi
    exact bi_lt (ih (by omega)) (h i (by omega))
theorem ah_tr {T : Tb} {a b c : Nat} (h : ahead T a b) (k : ahead T b c) : ahead T a c := by
  unfold ahead at *
  omega
theorem ah_ir {T : Tb} {a : Nat} (h : ahead T a a) : False := by
  unfold ahead at h
  omega
theorem ah_to {T : Tb} {a b : Nat} (h : ¬ ahead T a b) (hne : a ≠ b) : ahead T b a := by
  unfold ahead at *
  omega
/-- the first of those that are not gone, of the first j -/
def fst1 (T : Tb) (g j : Nat) : Option Nat → Prop
  | none => ∀ d, d < j → g.testBit d = true
  | some a => a < j ∧ g.testBit a = false ∧ ∀ d, d < j → g.testBit d = false → d = a ∨ ahead T a d
theorem fst1_b {T : Tb} {β : Nat → Nat} (hβ : ordered T β) {i : Nat} (hi : i < T 7 1) {x : Option Nat} (h : fst1 T (gm β i) (T 7 1) x) : x = some (β i) := by
  have inj : ∀ i j, i < j → j < T 7 1 → β i ≠ β j := fun i j hij hj e => by
    have := hβ.2 i j hij hj
    rw [e] at this
    exact ah_ir this
  have hg : (gm β i).testBit (β i) = false := by
    cases e : (gm β i).testBit (β i) with
    | false => rfl
    | true =>
      obtain ⟨j, hj, e2⟩ := (gm_t i).mp e
      exact absurd e2 (inj j i hj hi)
  cases x with
  | none => rw [h (β i) (hβ.1 i hi)] at hg; cases hg
  | some a =>
    obtain ⟨h1, h2, h3⟩ := h
    obtain ⟨j, hj, rfl⟩ := pig (T 7 1) β hβ.1 inj a h1
    have hji : i ≤ j := by
      rcases Nat.lt_or_ge j i with z | z
      · rw [(gm_t i).mpr ⟨j, z, rfl⟩] at h2; cases h2
      · exact z
    rcases h3 (β i) (hβ.1 i hi) hg with e | e
    · rw [e]
    · by_cases q : i = j
      · rw [q]
      · exact absurd (ah_tr e (hβ.2 i j (by omega) hj)) ah_ir
theorem r_paysAll {d n : Nat} {T : Tb} {β C : Nat → Nat} {S : Nat → Nat} {w : q_Sm} {Q : q_Sm → Prop} {X : s_Xo} (hE : RE T C n w) (hβ : ordered T β) (hS : rR 105 S w) (hB : rb T S)
    (h : ∀ u, fr aS w u → rR 105 (pa T β S (T 7 1)) u → Q u) : s_EvV (d + 3) 0 mX12_paysAll w [.ref 79] Q X := by
  have hb := tb_nd hE.1
  have h30 : ∀ u, fr aS w u → u.1 79 30 = nI (T 7 1) := fun u hu => (hu.2 _ _ rfl).trans hE.2.1.1.2.1
  have loop : ∀ i, i ≤ T 7 1 → ∀ u, fr aS w u → rR 105 (pa T β S i) u → s_Ex (d + 3) 0 mX12_paysAll 4 [some (.ref 79), some (.int (nI (gm β i))), some (.int (nI i)), none, none] [] u (s_V Q) X := by
    refine n_down ?_ ?_
    · intro u hu hr
      apply xX12_paysAll_4
      unfold vX12_paysAll_4
      try simp (disch := omega) only [s_Ii, s_Jj, s_Vn, forall_eq, L_m1, nI_add, nI_clamp, nI_leI, nI_ltI, nI_eq, vp_nI, pk_mul, pk_sub, Nat.zero_add, Nat.add_zero, wr_2, Classical.not_not, true_and, and_true, ne_eq, false_implies, true_implies, implies_true, not_true_eq_false, not_false_eq_true, ia_0, ia_1, za_1, ia_2, za_2, ia_3, za_3, ia_4, za_4, ia_5, za_5, ia_6, za_6, ia_7, za_7, ia_8, za_8, ia_9, za_9, ia_10, za_10, ia_11, za_11, ia_12, za_12, ia_13, za_13, ia_14, za_14, ia_15, za_15, ib_0, ib_1, zb_1, ic_0, ic_1, ic_2, ic_3, zc_1, zc_2, zc_3, id_0, id_1, id_2, id_3, zd_1, zd_2, zd_3, L_0, L_1, L_2, L_3, L_4, L_5, L_6, L_7, L_8, L_9, L_10, L_11, L_12, L_13, L_14, L_15, L_16, L_17, L_18, L_19, L_20, L_24, L_27, L_30, L_31, L_32, L_35, L_36, L_40, L_41, L_43, L_44, L_45, L_46, L_47, L_48, L_50, L_54, L_57, L_58, L_59, L_60, L_61, L_62, L_63, L_91, L_93, L_96, L_97, L_98, L_99, L_100, L_103, L_122, L_145, L_150, L_200, L_255, L_600, L_999, L_1000, L_2000, L_9999, L_10000, L_32767, L_12345, h30 u hu]
      exact ⟨fun _ => h u hu hr, fun z => absurd (Nat.le_refl _) z⟩
    · intro i hi ih u hu hr
      have hEu := hE.f hu aS_lo
      have hd := hβ.1 i hi
      have hc := tb_cl hE.1 hd
      have hBi := rb_pa hE.1 hβ hB i (by omega)
      have b1 := hBi.1 _ hd
      have b2 := rb_left hE.1 hBi hc
      have hgl := gm_lt (β := β) (n := T 7 1) (fun i hi => by have := hβ.1 i hi; omega) i (by omega)
      have inner : ∀ j, j ≤ T 7 1 → ∀ x, fst1 T (gm β i) j x → s_Ex (d + 3) 0 mX12_paysAll 17 [some (.ref 79), some (.int (nI (gm β i))), some (.int (nI i)), some (.int (oI x)), some (.int (nI j))] [] u (s_V Q) X := by
        refine n_down ?_ ?_
        · intro x hx
          have := fst1_b hβ hi hx
          subst this
          apply xX12_paysAll_17
          unfold vX12_paysAll_17
          rw [oI_s]
          try simp (disch := omega) only [s_Ii, s_Jj, s_Vn, forall_eq, L_m1, nI_add, nI_clamp, nI_leI, nI_ltI, nI_eq, vp_nI, pk_mul, pk_sub, Nat.zero_add, Nat.add_zero, wr_2, Classical.not_not, true_and, and_true, ne_eq, false_implies, true_implies, implies_true, not_true_eq_false, not_false_eq_true, ia_0, ia_1, za_1, ia_2, za_2, ia_3, za_3, ia_4, za_4, ia_5, za_5, ia_6, za_6, ia_7, za_7, ia_8, za_8, ia_9, za_9, ia_10, za_10, ia_11, za_11, ia_12, za_12, ia_13, za_13, ia_14, za_14, ia_15, za_15, ib_0, ib_1, zb_1, ic_0, ic_1, ic_2, ic_3, zc_1, zc_2, zc_3, id_0, id_1, id_2, id_3, zd_1, zd_2, zd_3, L_0, L_1, L_2, L_3, L_4, L_5, L_6, L_7, L_8, L_9, L_10, L_11, L_12, L_13, L_14, L_15, L_16, L_17, L_18, L_19, L_20, L_24, L_27, L_30, L_31, L_32, L_35, L_36, L_40, L_41, L_43, L_44, L_45, L_46, L_47, L_48, L_50, L_54, L_57, L_58, L_59, L_60, L_61, L_62, L_63, L_91, L_93, L_96, L_97, L_98, L_99, L_100, L_103, L_122, L_145, L_150, L_200, L_255, L_600, L_999, L_1000, L_2000, L_9999, L_10000, L_32767, L_12345, h30 u hu, bi_1, bi_or]
          refine ⟨fun _ => R_colourOf hEu hd ?_, fun z => absurd (Nat.le_refl _) z⟩
          try simp (disch := omega) only [s_Ii, s_Jj, s_Vn, forall_eq, L_m1, nI_add, nI_clamp, nI_leI, nI_ltI, nI_eq, vp_nI, pk_mul, pk_sub, Nat.zero_add, Nat.add_zero, wr_2, Classical.not_not, true_and, and_true, ne_eq, false_implies, true_implies, implies_true, not_true_eq_false, not_false_eq_true, ia_0, ia_1, za_1, ia_2, za_2, ia_3, za_3, ia_4, za_4, ia_5, za_5, ia_6, za_6, ia_7, za_7, ia_8, za_8, ia_9, za_9, ia_10, za_10, ia_11, za_11, ia_12, za_12, ia_13, za_13, ia_14, za_14, ia_15, za_15, ib_0, ib_1, zb_1, ic_0, ic_1, ic_2, ic_3, zc_1, zc_2, zc_3, id_0, id_1, id_2, id_3, zd_1, zd_2, zd_3, L_0, L_1, L_2, L_3, L_4, L_5, L_6, L_7, L_8, L_9, L_10, L_11, L_12, L_13, L_14, L_15, L_16, L_17, L_18, L_19, L_20, L_24, L_27, L_30, L_31, L_32, L_35, L_36, L_40, L_41, L_43, L_44, L_45, L_46, L_47, L_48, L_50, L_54, L_57, L_58, L_59, L_60, L_61, L_62, L_63, L_91, L_93, L_96, L_97, L_98, L_99, L_100, L_103, L_122, L_145, L_150, L_200, L_255, L_600, L_999, L_1000, L_2000, L_9999, L_10000, L_32767, L_12345, hr _, bi_1, bi_or]
          have fin : ∀ m, m = pam T (pa T β S i) (β i) → s_EvI (d + 2) 0 mX12_pays u [.ref 79, .int (nI (β i)), .int (nI m)] (fun _ u4 => s_Ex (d + 3) 0 mX12_paysAll 4 [some (.ref 79), some (.int (nI (gm β i ||| 2 ^ β i))), some (.int (nI (i + 1))), none, none] [] u4 (s_V Q) X) X := by
            rintro _ rfl
            have e2 : pam T (pa T β S i) (β i) ≤ 139 := by unfold pam; omega
            refine r_pays hEu hr hd ⟨b1.1, b2⟩ (by omega) (fun q u2 hu2 hr2 => ?_) (fun q => ?_)
            · exact ih u2 (hu.trans hu2) hr2
            · have e0 : pam T (pa T β S i) (β i) = 0 := by
                refine Classical.byContradiction (fun z => q ⟨z, ?_, ?_⟩) <;> unfold pam <;> omega
              have e4 : pa T β S (i + 1) = pa T β S i := by
                show pyS T (pa T β S i) (β i) (pam T (pa T β S i) (β i)) = _
                rw [e0, pyS_0]
              exact ih u hu (by rw [e4]; exact hr)
          refine ⟨by omega, by omega, fun z => ⟨by omega, fin _ ?_⟩, fun z => fin _ ?_⟩
          · unfold pam; omega
          · unfold pam; omega
        · intro j hj ih2 x hx
          apply xX12_paysAll_17
          unfold vX12_paysAll_17
          try simp (disch := omega) only [s_Ii, s_Jj, s_Vn, forall_eq, L_m1, nI_add, nI_clamp, nI_leI, nI_ltI, nI_eq, vp_nI, pk_mul, pk_sub, Nat.zero_add, Nat.add_zero, wr_2, Classical.not_not, true_and, and_true, ne_eq, false_implies, true_implies, implies_true, not_true_eq_false, not_false_eq_true, ia_0, ia_1, za_1, ia_2, za_2, ia_3, za_3, ia_4, za_4, ia_5, za_5, ia_6, za_6, ia_7, za_7, ia_8, za_8, ia_9, za_9, ia_10, za_10, ia_11, za_11, ia_12, za_12, ia_13, za_13, ia_14, za_14, ia_15, za_15, ib_0, ib_1, zb_1, ic_0, ic_1, ic_2, ic_3, zc_1, zc_2, zc_3, id_0, id_1, id_2, id_3, zd_1, zd_2, zd_3, L_0, L_1, L_2, L_3, L_4, L_5, L_6, L_7, L_8, L_9, L_10, L_11, L_12, L_13, L_14, L_15, L_16, L_17, L_18, L_19, L_20, L_24, L_27, L_30, L_31, L_32, L_35, L_36, L_40, L_41, L_43, L_44, L_45, L_46, L_47, L_48, L_50, L_54, L_57, L_58, L_59, L_60, L_61, L_62, L_63, L_91, L_93, L_96, L_97, L_98, L_99, L_100, L_103, L_122, L_145, L_150, L_200, L_255, L_600, L_999, L_1000, L_2000, L_9999, L_10000, L_32767, L_12345, h30 u hu, bi_bit]
          refine ⟨fun z => absurd z (by omega), fun _ => ?_⟩
          cases et : (gm β i).testBit j with
          | true =>
            refine ⟨fun _ => ih2 x ?_, fun z => absurd (show nI 1 = nI 0 from z) (by decide)⟩
            cases x with
            | none =>
              intro d hd
              rcases Nat.lt_or_ge d j with z | z
              · exact hx d z
              · rw [show d = j by omega]; exact et
            | some a =>
              refine ⟨by have := hx.1; omega, hx.2.1, fun d hd q => ?_⟩
              rcases Nat.lt_or_ge d j with z | z
              · exact hx.2.2 d z q
              · rw [show d = j by omega, et] at q; cases q
          | false =>
            try simp (disch := omega) only [s_Ii, s_Jj, s_Vn, forall_eq, L_m1, nI_add, nI_clamp, nI_leI, nI_ltI, nI_eq, vp_nI, pk_mul, pk_sub, Nat.zero_add, Nat.add_zero, wr_2, Classical.not_not, true_and, and_true, ne_eq, false_implies, true_implies, implies_true, not_true_eq_false, not_false_eq_true, ia_0, ia_1, za_1, ia_2, za_2, ia_3, za_3, ia_4, za_4, ia_5, za_5, ia_6, za_6, ia_7, za_7, ia_8, za_8, ia_9, za_9, ia_10, za_10, ia_11, za_11, ia_12, za_12, ia_13, za_13, ia_14, za_14, ia_15, za_15, ib_0, ib_1, zb_1, ic_0, ic_1, ic_2, ic_3, zc_1, zc_2, zc_3, id_0, id_1, id_2, id_3, zd_1, zd_2, zd_3, L_0, L_1, L_2, L_3, L_4, L_5, L_6, L_7, L_8, L_9, L_10, L_11, L_12, L_13, L_14, L_15, L_16, L_17, L_18, L_19, L_20, L_24, L_27, L_30, L_31, L_32, L_35, L_36, L_40, L_41, L_43, L_44, L_45, L_46, L_47, L_48, L_50, L_54, L_57, L_58, L_59, L_60, L_61, L_62, L_63, L_91, L_93, L_96, L_97, L_98, L_99, L_100, L_103, L_122, L_145, L_150, L_200, L_255, L_600, L_999, L_1000, L_2000, L_9999, L_10000, L_32767, L_12345]
            refine ⟨fun z => absurd rfl z, fun _ => ?_⟩
            cases x with
            | none =>
              refine ⟨fun _ => ih2 (some j) ⟨by omega, et, fun d hd q => ?_⟩, fun z => absurd rfl z⟩
              rcases Nat.lt_or_ge d j with z | z
              · rw [hx d z] at q; cases q
              · left; omega
            | some a =>
              have ha := hx.1
              rw [oI_s]
              try simp (disch := omega) only [s_Ii, s_Jj, s_Vn, forall_eq, L_m1, nI_add, nI_clamp, nI_leI, nI_ltI, nI_eq, vp_nI, pk_mul, pk_sub, Nat.zero_add, Nat.add_zero, wr_2, Classical.not_not, true_and, and_true, ne_eq, false_implies, true_implies, implies_true, not_true_eq_false, not_false_eq_true, ia_0, ia_1, za_1, ia_2, za_2, ia_3, za_3, ia_4, za_4, ia_5, za_5, ia_6, za_6, ia_7, za_7, ia_8, za_8, ia_9, za_9, ia_10, za_10, ia_11, za_11, ia_12, za_12, ia_13, za_13, ia_14, za_14, ia_15, za_15, ib_0, ib_1, zb_1, ic_0, ic_1, ic_2, ic_3, zc_1, zc_2, zc_3, id_0, id_1, id_2, id_3, zd_1, zd_2, zd_3, L_0, L_1, L_2, L_3, L_4, L_5, L_6, L_7, L_8, L_9, L_10, L_11, L_12, L_13, L_14, L_15, L_16, L_17, L_18, L_19, L_20, L_24, L_27, L_30, L_31, L_32, L_35, L_36, L_40, L_41, L_43, L_44, L_45, L_46, L_47, L_48, L_50, L_54, L_57, L_58, L_59, L_60, L_61, L_62, L_63, L_91, L_93, L_96, L_97, L_98, L_99, L_100, L_103, L_122, L_145, L_150, L_200, L_255, L_600, L_999, L_1000, L_2000, L_9999, L_10000, L_32767, L_12345, oI_n, L_mn]
              refine R_isAhead hEu (by omega) (by omega) (fun q => ?_) (fun q => ?_)
              · try simp (disch := omega) only [s_Ii, s_Jj, s_Vn, forall_eq, L_m1, nI_add, nI_clamp, nI_leI, nI_ltI, nI_eq, vp_nI, pk_mul, pk_sub, Nat.zero_add, Nat.add_zero, wr_2, Classical.not_not, true_and, and_true, ne_eq, false_implies, true_implies, implies_true, not_true_eq_false, not_false_eq_true, ia_0, ia_1, za_1, ia_2, za_2, ia_3, za_3, ia_4, za_4, ia_5, za_5, ia_6, za_6, ia_7, za_7, ia_8, za_8, ia_9, za_9, ia_10, za_10, ia_11, za_11, ia_12, za_12, ia_13, za_13, ia_14, za_14, ia_15, za_15, ib_0, ib_1, zb_1, ic_0, ic_1, ic_2, ic_3, zc_1, zc_2, zc_3, id_0, id_1, id_2, id_3, zd_1, zd_2, zd_3, L_0, L_1, L_2, L_3, L_4, L_5, L_6, L_7, L_8, L_9, L_10, L_11, L_12, L_13, L_14, L_15, L_16, L_17, L_18, L_19, L_20, L_24, L_27, L_30, L_31, L_32, L_35, L_36, L_40, L_41, L_43, L_44, L_45, L_46, L_47, L_48, L_50, L_54, L_57, L_58, L_59, L_60, L_61, L_62, L_63, L_91, L_93, L_96, L_97, L_98, L_99, L_100, L_103, L_122, L_145, L_150, L_200, L_255, L_600, L_999, L_1000, L_2000, L_9999, L_10000, L_32767, L_12345]
                refine ⟨fun z => absurd z (by decide), fun _ => ih2 (some j) ⟨by omega, et, fun d hd q2 => ?_⟩⟩
                rcases Nat.lt_or_ge d j with z | z
                · rcases hx.2.2 d z q2 with e | e
                  · right; rw [e]; exact q
                  · right; exact ah_tr q e
                · left; omega
              · try simp (disch := omega) only [s_Ii, s_Jj, s_Vn, forall_eq, L_m1, nI_add, nI_clamp, nI_leI, nI_ltI, nI_eq, vp_nI, pk_mul, pk_sub, Nat.zero_add, Nat.add_zero, wr_2, Classical.not_not, true_and, and_true, ne_eq, false_implies, true_implies, implies_true, not_true_eq_false, not_false_eq_true, ia_0, ia_1, za_1, ia_2, za_2, ia_3, za_3, ia_4, za_4, ia_5, za_5, ia_6, za_6, ia_7, za_7, ia_8, za_8, ia_9, za_9, ia_10, za_10, ia_11, za_11, ia_12, za_12, ia_13, za_13, ia_14, za_14, ia_15, za_15, ib_0, ib_1, zb_1, ic_0, ic_1, ic_2, ic_3, zc_1, zc_2, zc_3, id_0, id_1, id_2, id_3, zd_1, zd_2, zd_3, L_0, L_1, L_2, L_3, L_4, L_5, L_6, L_7, L_8, L_9, L_10, L_11, L_12, L_13, L_14, L_15, L_16, L_17, L_18, L_19, L_20, L_24, L_27, L_30, L_31, L_32, L_35, L_36, L_40, L_41, L_43, L_44, L_45, L_46, L_47, L_48, L_50, L_54, L_57, L_58, L_59, L_60, L_61, L_62, L_63, L_91, L_93, L_96, L_97, L_98, L_99, L_100, L_103, L_122, L_145, L_150, L_200, L_255, L_600, L_999, L_1000, L_2000, L_9999, L_10000, L_32767, L_12345]
                refine ih2 (some a) ⟨by omega, hx.2.1, fun d hd q2 => ?_⟩
                rcases Nat.lt_or_ge d j with z | z
                · exact hx.2.2 d z q2
                · right
                  rw [show d = j by omega]
                  exact ah_to q (by omega)
      apply xX12_paysAll_4
      unfold vX12_paysAll_4
      try simp (disch := omega) only [s_Ii, s_Jj, s_Vn, forall_eq, L_m1, nI_add, nI_clamp, nI_leI, nI_ltI, nI_eq, vp_nI, pk_mul, pk_sub, Nat.zero_add, Nat.add_zero, wr_2, Classical.not_not, true_and, and_true, ne_eq, false_implies, true_implies, implies_true, not_true_eq_false, not_false_eq_true, ia_0, ia_1, za_1, ia_2, za_2, ia_3, za_3, ia_4, za_4, ia_5, za_5, ia_6, za_6, ia_7, za_7, ia_8, za_8, ia_9, za_9, ia_10, za_10, ia_11, za_11, ia_12, za_12, ia_13, za_13, ia_14, za_14, ia_15, za_15, ib_0, ib_1, zb_1, ic_0, ic_1, ic_2, ic_3, zc_1, zc_2, zc_3, id_0, id_1, id_2, id_3, zd_1, zd_2, zd_3, L_0, L_1, L_2, L_3, L_4, L_5, L_6, L_7, L_8, L_9, L_10, L_11, L_12, L_13, L_14, L_15, L_16, L_17, L_18, L_19, L_20, L_24, L_27, L_30, L_31, L_32, L_35, L_36, L_40, L_41, L_43, L_44, L_45, L_46, L_47, L_48, L_50, L_54, L_57, L_58, L_59, L_60, L_61, L_62, L_63, L_91, L_93, L_96, L_97, L_98, L_99, L_100, L_103, L_122, L_145, L_150, L_200, L_255, L_600, L_999, L_1000, L_2000, L_9999, L_10000, L_32767, L_12345, h30 u hu]
      exact ⟨fun z => absurd z (by omega), fun _ => inner 0 (Nat.zero_le _) none (fun d hd => absurd hd (Nat.not_lt_zero _))⟩
  apply eX12_paysAll
  unfold vX12_paysAll_0
  exact loop 0 (Nat.zero_le _) w (fr.refl _ _) hS
