/-! agreements: moved, look -/
abbrev Ok2 : Type := Option (Nat × Nat)
def lkS (T : Tb) (B : Nat → Nat) (m g : Nat) : Nat → Ok2
  | 0 => none
  | q + 1 => if inl1 B (q / 4) (q % 4) m = true then lkS T B m g q else match lkS T B m g q with
    | none => some (q, ma1 T g (q / 4) (q % 4) (T 7 2))
    | some p => if ma1 T g (q / 4) (q % 4) (T 7 2) < p.2 then some (q, ma1 T g (q / 4) (q % 4) (T 7 2)) else some p
def k4 : Ok2 → Int32
  | none => -1
  | some p => nI (p.1 / 4)
def k5 : Ok2 → Int32
  | none => -1
  | some p => nI (p.1 % 4)
def k6 : Ok2 → Int32
  | none => -1
  | some p => nI p.2
def k3 : Ok2 → Int32
  | none => -1
  | some p => nI p.1
theorem lkS_b {T : Tb} {B : Nat → Nat} {m g : Nat} (ht : tb T) : ∀ q p, lkS T B m g q = some p → p.1 < q ∧ p.2 ≤ 12 := by
  intro q
  induction q with
  | zero => intro p h; cases h
  | succ q ih =>
    intro p
    have hm := ma_le (g := g) (e := q / 4) (k := q % 4) ht (T 7 2)
    unfold lkS
    split
    · intro h; have := ih p h; omega
    · cases h2 : lkS T B m g q with
      | none => intro h; cases h; exact ⟨by simp, hm⟩
      | some p2 =>
        have := ih p2 h2
        simp only
        split
        · intro h; cases h; exact ⟨by simp, hm⟩
        · intro h; cases h; omega
def aK (b i j : Nat) : Bool := i == b && (j == 4 || j == 5 || j == 6)
theorem aK_cB {b m : Nat} {B : Nat → Nat} {w u : q_Sm} (h : cB b B m w) (f : fr (aK b) w u) : cB b B m u := by
  obtain ⟨h1, h2, h3, h4, h5⟩ := h
  refine ⟨h1, h2, ?_, fun i hi => ?_, h5⟩
  · rw [f.2 _ _ (by simp [aK])]; exact h3
  · rw [f.2 _ _ (by simp [aK]), f.2 _ _ (by simp [aK]), f.2 _ _ (by simp [aK])]
    exact h4 i hi
theorem aK_lo {b : Nat} (hb : b = 44 ∨ b = 48) (i j : Nat) (h : i < 38 ∨ i = 40 ∨ i = 41) : aK b i j = false := by
  simp [aK]
  omega
theorem K_findLook {d o l n b m : Nat} {T : Tb} {β C B : Nat → Nat} {w : q_Sm} {Q : q_Sm → Prop} {X : s_Xo} (hE : KE o l T β C n w) (hb : cB b B m w)
    (h : ∀ u, fr (aK b) w u → u.1 b 4 = k4 (lkS T B m (mvB T B m (T 7 2)) (4 * T 7 2)) → u.1 b 5 = k5 (lkS T B m (mvB T B m (T 7 2)) (4 * T 7 2)) → u.1 b 6 = k6 (lkS T B m (mvB T B m (T 7 2)) (4 * T 7 2)) → Q u) : s_EvV (d + 4) 0 mX1_findLook w [.ref b, .ref o] Q X := by
  have ht := hE.2.2.1
  have hoo := hE.1
  have hbb := hb.1
  have hnu := tb_nu ht
  have hg := mvB_lt (T := T) (B := B) (m := m) (T 7 2) hnu
  generalize hgg : mvB T B m (T 7 2) = g at *
  have inner : ∀ e, e < T 7 2 → (∀ u, fr (aK b) w u → u.1 b 4 = k4 (lkS T B m g (4 * (e + 1))) → u.1 b 5 = k5 (lkS T B m g (4 * (e + 1))) → u.1 b 6 = k6 (lkS T B m g (4 * (e + 1))) → s_Ex (d + 4) 0 mX1_findLook 23 [some (.ref b), some (.ref o), some (.int (nI g)), some (.int (nI (e + 1))), none] [] u (s_V Q) X) →
      ∀ k, k ≤ 4 → ∀ u, fr (aK b) w u → u.1 b 4 = k4 (lkS T B m g (4 * e + k)) → u.1 b 5 = k5 (lkS T B m g (4 * e + k)) → u.1 b 6 = k6 (lkS T B m g (4 * e + k)) → s_Ex (d + 4) 0 mX1_findLook 34 [some (.ref b), some (.ref o), some (.int (nI g)), some (.int (nI e)), some (.int (nI k))] [] u (s_V Q) X := by
    intro e he next
    refine n_down ?_ ?_
    · intro u hu h4 h5 h6
      apply xX1_findLook_34
      unfold vX1_findLook_34
      try simp (disch := omega) only [s_Ii, s_Jj, s_Vn, forall_eq, L_m1, nI_add, nI_clamp, nI_leI, nI_ltI, nI_eq, vp_nI, pk_mul, pk_sub, Nat.zero_add, Nat.add_zero, wr_2, Classical.not_not, true_and, and_true, ne_eq, false_implies, true_implies, implies_true, not_true_eq_false, not_false_eq_true, ia_0, ia_1, za_1, ia_2, za_2, ia_3, za_3, ia_4, za_4, ia_5, za_5, ia_6, za_6, ia_7, za_7, ia_8, za_8, ia_9, za_9, ia_10, za_10, ia_11, za_11, ia_12, za_12, ia_13, za_13, ia_14, za_14, ia_15, za_15, ib_0, ib_1, zb_1, ic_0, ic_1, ic_2, ic_3, zc_1, zc_2, zc_3, id_0, id_1, id_2, id_3, zd_1, zd_2, zd_3, L_0, L_1, L_2, L_3, L_4, L_5, L_6, L_7, L_8, L_9, L_10, L_11, L_12, L_13, L_14, L_15, L_16, L_17, L_18, L_19, L_20, L_24, L_27, L_30, L_31, L_32, L_35, L_36, L_40, L_41, L_43, L_44, L_45, L_46, L_47, L_48, L_50, L_54, L_57, L_58, L_59, L_60, L_61, L_62, L_63, L_91, L_93, L_96, L_97, L_98, L_99, L_100, L_103, L_122, L_145, L_150, L_200, L_255, L_600, L_999, L_1000, L_2000, L_9999, L_10000, L_32767, L_12345, oI_s, oI_n, L_mn, if_true, if_false, ite_true, ite_false, Bool.false_eq_true, Nat.reduceEqDiff, Nat.reduceLeDiff, Nat.reduceLT, Nat.reduceAdd, Nat.reduceSub, Nat.reduceMul, Nat.le_refl, Nat.lt_irrefl, Nat.not_lt_zero]
      exact next u hu h4 h5 h6
    · intro k hk ih u hu h4 h5 h6
      have hbu := aK_cB hb hu
      have hEu := hE.f hu (aK_lo hbb)
      have hm := ma_le (g := g) (e := e) (k := k) ht (T 7 2)
      have d1 : (4 * e + k) / 4 = e := by omega
      have d2 : (4 * e + k) % 4 = k := by omega
      have es : lkS T B m g (4 * e + (k + 1)) = if inl1 B e k m = true then lkS T B m g (4 * e + k) else match lkS T B m g (4 * e + k) with
          | none => some (4 * e + k, ma1 T g e k (T 7 2))
          | some p => if ma1 T g e k (T 7 2) < p.2 then some (4 * e + k, ma1 T g e k (T 7 2)) else some p := by
        rw [← Nat.add_assoc]
        show (if inl1 B ((4 * e + k) / 4) ((4 * e + k) % 4) m = true then _ else _) = _
        rw [d1, d2]
      rw [es] at ih
      apply xX1_findLook_34
      unfold vX1_findLook_34
      try simp (disch := omega) only [s_Ii, s_Jj, s_Vn, forall_eq, L_m1, nI_add, nI_clamp, nI_leI, nI_ltI, nI_eq, vp_nI, pk_mul, pk_sub, Nat.zero_add, Nat.add_zero, wr_2, Classical.not_not, true_and, and_true, ne_eq, false_implies, true_implies, implies_true, not_true_eq_false, not_false_eq_true, ia_0, ia_1, za_1, ia_2, za_2, ia_3, za_3, ia_4, za_4, ia_5, za_5, ia_6, za_6, ia_7, za_7, ia_8, za_8, ia_9, za_9, ia_10, za_10, ia_11, za_11, ia_12, za_12, ia_13, za_13, ia_14, za_14, ia_15, za_15, ib_0, ib_1, zb_1, ic_0, ic_1, ic_2, ic_3, zc_1, zc_2, zc_3, id_0, id_1, id_2, id_3, zd_1, zd_2, zd_3, L_0, L_1, L_2, L_3, L_4, L_5, L_6, L_7, L_8, L_9, L_10, L_11, L_12, L_13, L_14, L_15, L_16, L_17, L_18, L_19, L_20, L_24, L_27, L_30, L_31, L_32, L_35, L_36, L_40, L_41, L_43, L_44, L_45, L_46, L_47, L_48, L_50, L_54, L_57, L_58, L_59, L_60, L_61, L_62, L_63, L_91, L_93, L_96, L_97, L_98, L_99, L_100, L_103, L_122, L_145, L_150, L_200, L_255, L_600, L_999, L_1000, L_2000, L_9999, L_10000, L_32767, L_12345, oI_s, oI_n, L_mn, if_true, if_false, ite_true, ite_false, Bool.false_eq_true, Nat.reduceEqDiff, Nat.reduceLeDiff, Nat.reduceLT, Nat.reduceAdd, Nat.reduceSub, Nat.reduceMul, Nat.le_refl, Nat.lt_irrefl, Nat.not_lt_zero]
      refine ⟨fun z => absurd z (by omega), fun _ => K_isInLine hbu (by omega) (by omega) ?_⟩
      cases ei : inl1 B e k m with
      | true =>
        rw [if_pos ei] at ih
        exact ⟨fun _ => ih u hu h4 h5 h6, fun z => absurd (show nI 1 = nI 0 from z) (by decide)⟩
      | false =>
        rw [if_neg (by rw [ei]; decide)] at ih
        refine ⟨fun z => absurd rfl z, fun _ => K_mostAlike hEu hg (by omega) (by omega) ?_⟩
        have put : ∀ v, s_EvV (d + 3) 0 mX1_offerLook u [.ref b, .int (nI e), .int (nI k), .int (nI (ma1 T g e k (T 7 2)))] (fun u15 => s_Ex (d + 4) 0 mX1_findLook 34 [some (.ref b), some (.ref o), some (.int (nI g)), some (.int (nI e)), some (.int (nI (k + 1)))] [] u15 (s_V Q) X) X = v → v := by
          intro v hv
          rw [← hv]
          apply eX1_offerLook
          unfold vX1_offerLook_0
          have fin : ∀ u2, u2 = q_wI (q_wI (q_wI u b 4 (nI e)) b 5 (nI k)) b 6 (nI (ma1 T g e k (T 7 2))) → (match lkS T B m g (4 * e + k) with
              | none => some (4 * e + k, ma1 T g e k (T 7 2))
              | some p => if ma1 T g e k (T 7 2) < p.2 then some (4 * e + k, ma1 T g e k (T 7 2)) else some p) = some (4 * e + k, ma1 T g e k (T 7 2)) → s_Ex (d + 4) 0 mX1_findLook 34 [some (.ref b), some (.ref o), some (.int (nI g)), some (.int (nI e)), some (.int (nI (k + 1)))] [] u2 (s_V Q) X := by
            rintro _ rfl hx
            refine ih _ (((hu.put (by simp [aK])).put (by simp [aK])).put (by simp [aK])) ?_ ?_ ?_
            · rw [hx, rd_j (by omega), rd_j (by omega), rd_s]
              show nI e = nI ((4 * e + k) / 4)
              rw [d1]
            · rw [hx, rd_j (by omega), rd_s]
              show nI k = nI ((4 * e + k) % 4)
              rw [d2]
            · rw [hx, rd_s]
              rfl
          rw [h4, h6]
          cases el : lkS T B m g (4 * e + k) with
          | none =>
            rw [el] at fin
            refine ⟨id_0 hbb, fun _ => ⟨id_0 hbb, ?_⟩, fun z => absurd rfl z⟩
            rintro _ rfl
            refine ⟨id_0 hbb, ?_⟩
            rintro _ rfl
            refine ⟨id_0 hbb, ?_⟩
            rintro _ rfl
            exact ⟨rfl, fin _ rfl rfl⟩
          | some p =>
            have hp := lkS_b ht _ _ el
            rw [el] at fin
            refine ⟨id_0 hbb, fun z => absurd ((oI_n (by omega)).mp (show nI (p.1 / 4) = oI none from z)) (fun q => q), fun _ => ⟨id_0 hbb, fun z => ⟨rfl, ?_⟩, fun z => ⟨id_0 hbb, ?_⟩⟩⟩
            · have z : nI p.2 ≤ nI (ma1 T g e k (T 7 2)) := z
              rw [nI_leI (by omega) (by omega)] at z
              have hx : (match some p with
                | none => some (4 * e + k, ma1 T g e k (T 7 2))
                | some p => if ma1 T g e k (T 7 2) < p.2 then some (4 * e + k, ma1 T g e k (T 7 2)) else some p) = some p := by
                show (if _ then _ else _) = _
                rw [if_neg (by omega)]
              refine ih u hu ?_ ?_ ?_
              · rw [h4, el]; exact (congrArg k4 hx).symm
              · rw [h5, el]; exact (congrArg k5 hx).symm
              · rw [h6, el]; exact (congrArg k6 hx).symm
            · have z : ¬ nI p.2 ≤ nI (ma1 T g e k (T 7 2)) := z
              rw [nI_leI (by omega) (by omega)] at z
              rintro _ rfl
              refine ⟨id_0 hbb, ?_⟩
              rintro _ rfl
              refine ⟨id_0 hbb, ?_⟩
              rintro _ rfl
              refine ⟨rfl, fin _ rfl ?_⟩
              show (if _ then _ else _) = _
              rw [if_pos (by omega)]
        exact put _ rfl
  have loop : ∀ e, e ≤ T 7 2 → ∀ u, fr (aK b) w u → u.1 b 4 = k4 (lkS T B m g (4 * e)) → u.1 b 5 = k5 (lkS T B m g (4 * e)) → u.1 b 6 = k6 (lkS T B m g (4 * e)) → s_Ex (d + 4) 0 mX1_findLook 23 [some (.ref b), some (.ref o), some (.int (nI g)), some (.int (nI e)), none] [] u (s_V Q) X := by
    refine n_down ?_ ?_
    · intro u hu h4 h5 h6
      apply xX1_findLook_23
      unfold vX1_findLook_23
      try simp (disch := omega) only [s_Ii, s_Jj, s_Vn, forall_eq, L_m1, nI_add, nI_clamp, nI_leI, nI_ltI, nI_eq, vp_nI, pk_mul, pk_sub, Nat.zero_add, Nat.add_zero, wr_2, Classical.not_not, true_and, and_true, ne_eq, false_implies, true_implies, implies_true, not_true_eq_false, not_false_eq_true, ia_0, ia_1, za_1, ia_2, za_2, ia_3, za_3, ia_4, za_4, ia_5, za_5, ia_6, za_6, ia_7, za_7, ia_8, za_8, ia_9, za_9, ia_10, za_10, ia_11, za_11, ia_12, za_12, ia_13, za_13, ia_14, za_14, ia_15, za_15, ib_0, ib_1, zb_1, ic_0, ic_1, ic_2, ic_3, zc_1, zc_2, zc_3, id_0, id_1, id_2, id_3, zd_1, zd_2, zd_3, L_0, L_1, L_2, L_3, L_4, L_5, L_6, L_7, L_8, L_9, L_10, L_11, L_12, L_13, L_14, L_15, L_16, L_17, L_18, L_19, L_20, L_24, L_27, L_30, L_31, L_32, L_35, L_36, L_40, L_41, L_43, L_44, L_45, L_46, L_47, L_48, L_50, L_54, L_57, L_58, L_59, L_60, L_61, L_62, L_63, L_91, L_93, L_96, L_97, L_98, L_99, L_100, L_103, L_122, L_145, L_150, L_200, L_255, L_600, L_999, L_1000, L_2000, L_9999, L_10000, L_32767, L_12345, oI_s, oI_n, L_mn, if_true, if_false, ite_true, ite_false, Bool.false_eq_true, Nat.reduceEqDiff, Nat.reduceLeDiff, Nat.reduceLT, Nat.reduceAdd, Nat.reduceSub, Nat.reduceMul, Nat.le_refl, Nat.lt_irrefl, Nat.not_lt_zero, (hE.f hu (aK_lo hbb)).nu]
      exact h u hu h4 h5 h6
    · intro e he ih u hu h4 h5 h6
      apply xX1_findLook_23
      unfold vX1_findLook_23
      try simp (disch := omega) only [s_Ii, s_Jj, s_Vn, forall_eq, L_m1, nI_add, nI_clamp, nI_leI, nI_ltI, nI_eq, vp_nI, pk_mul, pk_sub, Nat.zero_add, Nat.add_zero, wr_2, Classical.not_not, true_and, and_true, ne_eq, false_implies, true_implies, implies_true, not_true_eq_false, not_false_eq_true, ia_0, ia_1, za_1, ia_2, za_2, ia_3, za_3, ia_4, za_4, ia_5, za_5, ia_6, za_6, ia_7, za_7, ia_8, za_8, ia_9, za_9, ia_10, za_10, ia_11, za_11, ia_12, za_12, ia_13, za_13, ia_14, za_14, ia_15, za_15, ib_0, ib_1, zb_1, ic_0, ic_1, ic_2, ic_3, zc_1, zc_2, zc_3, id_0, id_1, id_2, id_3, zd_1, zd_2, zd_3, L_0, L_1, L_2, L_3, L_4, L_5, L_6, L_7, L_8, L_9, L_10, L_11, L_12, L_13, L_14, L_15, L_16, L_17, L_18, L_19, L_20, L_24, L_27, L_30, L_31, L_32, L_35, L_36, L_40, L_41, L_43, L_44, L_45, L_46, L_47, L_48, L_50, L_54, L_57, L_58, L_59, L_60, L_61, L_62, L_63, L_91, L_93, L_96, L_97, L_98, L_99, L_100, L_103, L_122, L_145, L_150, L_200, L_255, L_600, L_999, L_1000, L_2000, L_9999, L_10000, L_32767, L_12345, oI_s, oI_n, L_mn, if_true, if_false, ite_true, ite_false, Bool.false_eq_true, Nat.reduceEqDiff, Nat.reduceLeDiff, Nat.reduceLT, Nat.reduceAdd, Nat.reduceSub, Nat.reduceMul, Nat.le_refl, Nat.lt_irrefl, Nat.not_lt_zero, (hE.f hu (aK_lo hbb)).nu]
      exact ⟨fun z => absurd z (by omega), fun _ => inner e he ih 0 (by omega) u hu h4 h5 h6⟩
  apply eX1_findLook
  unfold vX1_findLook_0
  refine ⟨id_0 hbb, ?_⟩
  rintro _ rfl
  refine ⟨id_0 hbb, ?_⟩
  rintro _ rfl
  refine ⟨id_0 hbb, ?_⟩
  rintro _ rfl
  have f0 : fr (aK b) w (q_wI (q_wI (q_wI w b 4 (-1)) b 5 (-1)) b 6 (-1)) := ((fr.wr (by simp [aK])).put (by simp [aK])).put (by simp [aK])
  refine ⟨id_0 hbb, K_rightMoves (hE.f f0 (aK_lo hbb)) (aK_cB hb f0) ?_⟩
  rw [hgg]
  refine loop 0 (by omega) _ f0 ?_ ?_ ?_
  · rw [rd_j (by omega), rd_j (by omega), rd_s]; rfl
  · rw [rd_j (by omega), rd_s]; rfl
  · rw [rd_s]; rfl
theorem r_lookL {d n m x : Nat} {T : Tb} {C B : Nat → Nat} {w : q_Sm} {Q : Int32 → q_Sm → Prop} {X : s_Xo} (hE : RE T C n w) (hb : rB B m w) (hx : x < 3)
    (h : ∀ u, fr aY w u → Q (if x = 0 then k4 (lkS T B m (mvB T B m (T 7 2)) (4 * T 7 2)) else if x = 1 then k5 (lkS T B m (mvB T B m (T 7 2)) (4 * T 7 2)) else k6 (lkS T B m (mvB T B m (T 7 2)) (4 * T 7 2))) u) :
    s_Ex (d + 4) 0 mX12_look 35 [some (.ref 79), some (.int (nI x)), some (.int (nI (mvB T B m (T 7 2)))), some (.int (-1)), some (.int (-1)), some (.int (nI 0)), none] [] w (s_I Q) X := by
  have ht := hE.1
  have hnu := tb_nu ht
  have hg := mvB_lt (T := T) (B := B) (m := m) (T 7 2) hnu
  generalize hgg : mvB T B m (T 7 2) = g at *
  have hlo : ∀ i j, i < 100 → aY i j = false := fun i j q => by simp [aY]; omega
  have loop : ∀ q, q ≤ 4 * T 7 2 → ∀ u, fr aY w u → s_Ex (d + 4) 0 mX12_look 35 [some (.ref 79), some (.int (nI x)), some (.int (nI g)), some (.int (k3 (lkS T B m g q))), some (.int (k6 (lkS T B m g q))), some (.int (nI q)), none] [] u (s_I Q) X := by
    refine n_down ?_ ?_
    · intro u hu
      have fin := h u hu
      have e31 : (4 : Int32) * u.1 79 31 = nI (4 * T 7 2) := by rw [(hE.f hu hlo).nu, L_4, pk_mul]
      apply xX12_look_35
      unfold vX12_look_35
      rw [e31]
      refine ⟨fun _ => ?_, fun z => absurd (nI_le (Nat.le_refl _) (by omega)) z⟩
      cases el : lkS T B m g (4 * T 7 2) with
      | none =>
        rw [el] at fin
        refine ⟨fun z => absurd rfl z, fun _ => ⟨_, rfl, ?_⟩⟩
        have e9 : (if x = 0 then k4 none else if x = 1 then k5 none else k6 none) = (-1 : Int32) := by split; rfl; split <;> rfl
        rw [e9] at fin
        exact fin
      | some p =>
        rw [el] at fin
        have hp := lkS_b ht _ _ el
        refine ⟨fun _ => ⟨fun z => ⟨fun z1 => ?_, fun z1 => ?_⟩, fun z => ?_⟩, fun z => absurd (fun q => (oI_n (by omega)).mp (show nI p.1 = oI none from q)) z⟩
        · rw [if_neg (fun q => z (by rw [q]; rfl)), if_neg (fun q => z1 (by rw [q]; rfl))] at fin
          exact ⟨_, rfl, fin⟩
        · have z2 : nI x = nI 1 := Decidable.not_not.mp z1
          rw [nI_eq (by omega) (by omega)] at z2
          rw [if_neg (by omega), if_pos z2] at fin
          refine ⟨_, rfl, ?_⟩
          show Q (nI p.1 - nI p.1 / nI 4 * nI 4) u
          rw [pk_rem (by omega) (by omega) (by omega)]
          exact fin
        · have z2 : nI x = nI 0 := Decidable.not_not.mp z
          rw [nI_eq (by omega) (by omega)] at z2
          rw [if_pos z2] at fin
          refine ⟨_, rfl, ?_⟩
          show Q (nI p.1 / nI 4) u
          rw [pk_div (by omega) (by omega) (by omega)]
          exact fin
    · intro q hq ih u hu
      have hEu := hE.f hu hlo
      have hbu : rB B m u := by
        obtain ⟨b1, b2, b3, b4⟩ := hb
        refine ⟨b1, by rw [hu.2 _ _ rfl]; exact b2, fun i hi => ?_, b4⟩
        rw [hu.2 _ _ rfl, hu.2 _ _ rfl, hu.2 _ _ rfl]
        exact b3 i hi
      have e31 : (4 : Int32) * u.1 79 31 = nI (4 * T 7 2) := by rw [hEu.nu, L_4, pk_mul]
      have hm := ma_le (g := g) (e := q / 4) (k := q % 4) ht (T 7 2)
      have ed : nI q / 4 = nI (q / 4) := by rw [L_4, pk_div (by omega) (by omega) (by omega)]
      have er : nI q - nI (q / 4) * 4 = nI (q % 4) := by
        have := pk_rem (a := q) (d := 4) (by omega) (by omega) (by omega)
        rw [pk_div (by omega) (by omega) (by omega)] at this
        exact this
      unfold lkS at ih
      apply xX12_look_35
      unfold vX12_look_35
      rw [e31, ed, er, nI_1]
      refine ⟨fun z => absurd z (nI_ge hq (by omega)), fun _ => R_isSeen hbu (by omega) (by omega) ?_⟩
      cases ei : inl1 B (q / 4) (q % 4) m with
      | true =>
        rw [if_pos ei] at ih
        exact ⟨fun z => absurd (show nI 1 = nI 0 from z) (by decide), fun _ => ih u hu⟩
      | false =>
        rw [if_neg (by rw [ei]; decide)] at ih
        refine ⟨fun _ => R_worstAt hEu hg (by omega) (by omega) (fun u2 hu2 => ?_), fun z => absurd rfl z⟩
        cases el : lkS T B m g q with
        | none =>
          simp only [el] at ih
          exact ⟨fun _ => ih u2 (hu.trans hu2), fun z => absurd rfl z⟩
        | some p =>
          have hp := lkS_b ht _ _ el
          simp only [el] at ih
          refine ⟨fun z => absurd ((oI_n (by omega)).mp (show nI p.1 = oI none from z)) (fun q => q), fun _ => ⟨fun z => ?_, fun z => ?_⟩⟩
          · have z : nI (ma1 T g (q / 4) (q % 4) (T 7 2)) < nI p.2 := z
            rw [nI_ltI (by omega) (by omega)] at z
            rw [if_pos z] at ih
            exact ih u2 (hu.trans hu2)
          · have z : ¬ nI (ma1 T g (q / 4) (q % 4) (T 7 2)) < nI p.2 := z
            rw [nI_ltI (by omega) (by omega)] at z
            rw [if_neg z] at ih
            exact ih u2 (hu.trans hu2)
  exact loop 0 (by omega) w (fr.refl _ _)
theorem sc_Y (i j : Nat) (h : aY i j = true) : scr i j = true := by
  have : i = 114 := by simpa [aY] using h
  subst this; rfl
theorem sc_K {b : Nat} (hb : b = 44 ∨ b = 48) (i j : Nat) (h : aK b i j = true) : scr i j = true := by
  have : i = b ∧ (j = 4 ∨ j = 5 ∨ j = 6) := by simpa [aK, or_assoc] using h
  obtain ⟨rfl, h2⟩ := this
  rcases hb with rfl | rfl <;> rcases h2 with rfl | rfl | rfl <;> rfl
theorem rB.f {B : Nat → Nat} {m : Nat} {w u : q_Sm} (h : rB B m w) (f : fr scr w u) : rB B m u := by
  obtain ⟨b1, b2, b3, b4⟩ := h
  refine ⟨b1, by rw [f.2 _ _ rfl]; exact b2, fun i hi => ?_, b4⟩
  rw [f.2 _ _ rfl, f.2 _ _ rfl, f.2 _ _ rfl]
  exact b3 i hi
theorem ag_moved (w : q_Sm) (hI : Inv w) : ag_D Inv 999 mX11_moved mX12_moved w [] := by
  obtain ⟨T, β, C, n, S, B, m, hC, hPst, hImg, hTp, hCnt⟩ := id hI
  have hE := hC.2.1
  have ht := hE.2.2.1
  have hRE := hC.2.2.1
  have hnc := tb_nc ht
  have hnd := tb_nd ht
  have hnw := tb_nw ht
  have hS := hC.2.2.2.1
  have hSr := hC.2.2.2.2.1
  have hok := hC.2.2.2.2.2.1
  have hβ := hE.ord
  refine agD_ok (nI (mvB T B m (T 7 2))) hI (fun Q X hQ => ?_) (fun u hu Q X hQ => ?_)
  · apply eX11_moved
    unfold vX11_moved_0
    exact ⟨id_0 hC.cB.1, K_rightMoves hE hC.cB ⟨_, rfl, hQ w (fr.refl _ _)⟩⟩
  · have hCu := hC.sim hu
    have hE1 : RE T C n (q_wI u 79 0 0) := hCu.2.2.1.t
    have h79 : (q_wI u 79 0 0).1 79 0 = 0 := rd_s
    have hS1 : rR 104 S (q_wI u 79 0 0) := hCu.2.2.2.2.1.eq (fun j => rd_i (by omega))
    have hf1 : fr scr u (q_wI u 79 0 0) := scr_t
    apply eX12_moved
    unfold vX12_moved_0
    intro w1 hw1
    rw [← hw1] at hE1 h79 hS1 hf1
    exact R_movedNow hE1 (hCu.rB.f hf1) ⟨_, rfl, hQ _ hf1⟩
theorem ag_look (w : q_Sm) (hI : Inv w) (x1 : Int32) : ag_W Inv 998 1 er_I mX11_look mX12_look w [.int x1] := by
  obtain ⟨T, β, C, n, S, B, m, hC, hPst, hImg, hTp, hCnt⟩ := id hI
  have hE := hC.2.1
  have ht := hE.2.2.1
  have hRE := hC.2.2.1
  have hnc := tb_nc ht
  have hnd := tb_nd ht
  have hnw := tb_nw ht
  have hS := hC.2.2.2.1
  have hSr := hC.2.2.2.2.1
  have hok := hC.2.2.2.2.2.1
  have hβ := hE.ord
  rcases rng x1 2 (by omega) with ⟨j1, g1, rfl⟩ | e0
  rotate_left
  · have e0 : r_in x1 0 2 = 0 := e0
    refine agW_no hI "java/lang/IllegalArgumentException" (nI 1) 14 1 (by omega) (⟨rfl, rfl⟩) (fun Q X hX => ?_) (fun u hu Q X hQ => ?_)
    · apply eX11_look
      unfold vX11_look_0
      refine K_isIn ?_
      rw [e0]
      exact K_req0 hX
    · have hE1 : RE T C n (q_wI u 79 0 0) := (hRE.n1 hu).t
      have h79 : (q_wI u 79 0 0).1 79 0 = 0 := rd_s
      apply eX12_look
      unfold vX12_look_0
      rintro _ rfl
      refine R_within ?_
      rw [e0]
      refine R_no (k := 1) (t := 1) (by omega) (by omega) (by omega) ?_
      first | exact ⟨fun _ => ⟨_, rfl, hQ⟩, fun z => absurd rfl z⟩ | exact ⟨fun z => absurd rfl z, fun _ => ⟨_, rfl, hQ⟩⟩
  have p0 : r_in (nI j1) 0 2 = 1 := r_in1 (a := 0) (b := 2) (by omega) (by omega) (by omega)
  refine agW_ok (if j1 = 0 then k4 (lkS T B m (mvB T B m (T 7 2)) (4 * T 7 2)) else if j1 = 1 then k5 (lkS T B m (mvB T B m (T 7 2)) (4 * T 7 2)) else k6 (lkS T B m (mvB T B m (T 7 2)) (4 * T 7 2))) hI (fun Q X hQ => ?_) (fun u hu Q X hQ => ?_)
  · apply eX11_look
    unfold vX11_look_0
    refine K_isIn ?_
    rw [p0]
    refine K_req1 ?_
    have hcb := hC.cB
    refine ⟨id_0 hcb.1, K_findLook hE hcb (fun u hu h4 h5 h6 => ?_)⟩
    have hid : u.2.2.2.2.2.2.1 = w.2.2.2.2.2.2.1 := by rw [hu.1]
    have fin := hQ u (hu.mono (sc_K hcb.1))
    rw [hid, h4, h5, h6]
    simp only [ti_0, ti_1]
    refine ⟨fun z => ⟨id_0 hcb.1, _, rfl, ?_⟩, fun z => ⟨id_0 hcb.1, _, rfl, ?_⟩, fun z => ⟨id_0 hcb.1, _, rfl, ?_⟩⟩
    · have z2 : nI j1 = nI 0 := z
      rw [nI_eq (by omega) (by omega)] at z2
      rw [if_pos z2] at fin
      exact fin
    · have z2 : nI j1 = nI 1 := z
      rw [nI_eq (by omega) (by omega)] at z2
      rw [if_neg (by omega), if_pos z2] at fin
      exact fin
    · rw [if_neg (fun q => z.1 (by rw [q]; rfl)), if_neg (fun q => z.2 (by rw [q]; rfl))] at fin
      exact fin
  · have hCu := hC.sim hu
    have hE1 : RE T C n (q_wI u 79 0 0) := hCu.2.2.1.t
    have h79 : (q_wI u 79 0 0).1 79 0 = 0 := rd_s
    have hS1 : rR 104 S (q_wI u 79 0 0) := hCu.2.2.2.2.1.eq (fun j => rd_i (by omega))
    have hf1 : fr scr u (q_wI u 79 0 0) := scr_t
    apply eX12_look
    unfold vX12_look_0
    intro w1 hw1
    rw [← hw1] at hE1 h79 hS1 hf1
    refine R_within ?_
    rw [p0]
    refine R_may1 h79 ?_
    first | refine ⟨fun z => absurd z (by decide), fun _ => ?_⟩ | refine ⟨fun _ => ?_, fun z => absurd (show ¬ (1 : Int32) = 0 by decide) z⟩
    refine R_movedNow hE1 (hCu.rB.f hf1) (r_lookL hE1 (hCu.rB.f hf1) (by omega) (fun u2 hu2 => ?_))
    exact hQ u2 (hf1.trans (hu2.mono sc_Y)) ((hu2.2 _ _ rfl).trans h79)
