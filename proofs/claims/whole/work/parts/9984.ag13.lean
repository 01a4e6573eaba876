/-! the book agrees -/
theorem in_ok {x : Int32} {n : Nat} (hn : n < 2 ^ 31) (h0 : ¬ x < 0) (h1 : ¬ nI n < x) : ∃ j : Nat, j ≤ n ∧ x = nI j := by
  rcases rng x n hn with h | e
  · exact h
  · unfold r_in at e
    have h0' : ¬ x < (0 : Int32) := h0
    simp [h0', h1] at e
theorem R_bookEnd {d : Nat} {X : s_Xo} {u : q_Sm} {r : Option (Nat × Nat) × Nat × (Nat → Nat)} {m : Nat} {Q : Int32 → q_Sm → Prop} (hf : fR r.1 u) (hm : r.2.1 ≤ 10) (hr : r.1 = none → m = r.2.1 ∧ bm r.2.1 r.2.2 u)
    (h1 : r.1 = none → ∀ z, z.2 = u.2 → (∀ i j, ¬ (i = 79 ∧ (j = 8 ∨ j = 55)) → i ≠ 108 → z.1 i j = u.1 i j) → z.1 79 8 = oI none → z.1 79 55 = nI r.2.1 → (∀ k, k < 3 * r.2.1 → z.1 108 k = nI (r.2.2 k)) → Q (nI r.2.1) z)
    (h2 : ∀ k p, r.1 = some (k, p) → ∀ z, z.2 = u.2 → (∀ i j, ¬ (i = 79 ∧ j = 8) → z.1 i j = u.1 i j) → z.1 79 8 = nI p → Q (nI k - 10) z) :
    s_Ex (d + 3) 0 mX12_book 164 [some (.ref 79), none, some (.int (nI m)), none, none, none, none] [] u (s_I Q) X := by
  apply xX12_book_164
  unfold vX12_book_164
  apply eX12_result
  unfold vX12_result_0
  intro w1 e1
  have f1 : fR r.1 w1 := hf.mv (by rw [e1, rd_j (by decide)]) (by rw [e1, rd_j (by decide)])
  have g1 : ∀ i j, ¬ (i = 79 ∧ j = 8) → w1.1 i j = u.1 i j := fun i j q => by rw [e1, rd_ne (by omega)]
  have g2 : w1.2 = u.2 := by rw [e1]; rfl
  have g8 : w1.1 79 8 = u.1 79 5 := by rw [e1, rd_s]
  clear e1
  refine R_fine f1 (fun q => ?_) (fun q => ?_)
  · refine ⟨fun z => absurd z (by decide), fun _ => ?_⟩
    rw [s_Ii, fR_5 f1]
    refine ⟨fun _ => ?_, fun z => absurd q z⟩
    obtain ⟨hm1, hb⟩ := hr q
    intro w2 e2
    have e30 : 3 * nI m = nI (3 * m) := by try simp (disch := omega) only [s_Ii, s_Jj, s_Vn, forall_eq, L_m1, nI_add, nI_clamp, nI_leI, nI_ltI, nI_eq, vp_nI, pk_mul, pk_sub, Nat.zero_add, Nat.add_zero, wr_2, Classical.not_not, true_and, and_true, ne_eq, false_implies, true_implies, implies_true, not_true_eq_false, not_false_eq_true, ia_0, ia_1, za_1, ia_2, za_2, ia_3, za_3, ia_4, za_4, ia_5, za_5, ia_6, za_6, ia_7, za_7, ia_8, za_8, ia_9, za_9, ia_10, za_10, ia_11, za_11, ia_12, za_12, ia_13, za_13, ia_14, za_14, ia_15, za_15, ib_0, ib_1, zb_1, ic_0, ic_1, ic_2, ic_3, zc_1, zc_2, zc_3, id_0, id_1, id_2, id_3, zd_1, zd_2, zd_3, L_0, L_1, L_2, L_3, L_4, L_5, L_6, L_7, L_8, L_9, L_10, L_11, L_12, L_13, L_14, L_15, L_16, L_17, L_18, L_19, L_20, L_24, L_27, L_30, L_31, L_32, L_35, L_36, L_40, L_41, L_43, L_44, L_45, L_46, L_47, L_48, L_50, L_54, L_57, L_58, L_59, L_60, L_61, L_62, L_63, L_91, L_93, L_96, L_97, L_98, L_99, L_100, L_103, L_122, L_145, L_150, L_200, L_255, L_600, L_999, L_1000, L_2000, L_9999, L_10000, L_32767, L_12345, oI_s, oI_n, L_mn, if_true, if_false, ite_true, ite_false, Bool.false_eq_true, Nat.reduceEqDiff, Nat.reduceLeDiff, Nat.reduceLT, Nat.reduceAdd, Nat.reduceSub, Nat.reduceMul, Nat.le_refl, Nat.lt_irrefl, Nat.not_lt_zero]
    rw [e30]
    refine R_copyB (d := d + 1) (by omega) (fun u3 f3 c3 => ?_)
    rw [s_Ii, hm1]
    refine h1 q u3 ?_ (fun i j z1 z2 => ?_) ?_ ?_ (fun k hk => ?_)
    · rw [f3.1, e2]; exact g2
    · rw [f3.2 i j (by simp; omega), e2, rd_ne (by omega), g1 i j (by omega)]
    · rw [f3.2 79 8 rfl, e2, rd_j (by decide), g8]
      rw [q] at hf
      exact hf
    · rw [f3.2 79 55 rfl, e2, rd_s, hm1]
    · rw [c3 k (by omega), e2, rd_i (by decide), g1 107 k (by omega)]
      exact hb k hk
  · refine ⟨fun _ => ?_, fun z => absurd rfl z⟩
    rw [s_Ii, fR_5 f1]
    refine ⟨fun z => absurd z q, fun _ => ?_⟩
    cases hx : r.1 with
    | none => exact absurd hx q
    | some x =>
      obtain ⟨k, p⟩ := x
      rw [hx] at f1 hf
      have f1 : w1.1 79 5 = nI p ∧ w1.1 79 6 = nI k ∧ 0 < k ∧ k < 4 ∧ p ≤ 600 := f1
      have hf : u.1 79 5 = nI p ∧ u.1 79 6 = nI k ∧ 0 < k ∧ k < 4 ∧ p ≤ 600 := hf
      rw [s_Ii, f1.2.1]
      exact h2 k p hx w1 g2 g1 (by rw [g8, hf.1])
theorem bkp_m {N : Nat} {Y : Nat → Nat} : ∀ j m a B, m + j = 11 → m ≤ 10 → (bkp N Y j m a B).2.1 ≤ 10 := by
  intro j
  induction j with
  | zero => intro m a B h1 h2; omega
  | succ j ih =>
    intro m a B h1 h2
    rw [bkp]
    by_cases hs : sk N Y a < N
    · rw [@if_pos _ (Classical.propDecidable _) hs]
      cases hF : bF3 N Y m (sk N Y a) with
      | some x => exact h2
      | none =>
        have hm9 : m < 10 := by
          have := (orf_nn.mp (orf_nn.mp (orf_nn.mp (orf_nn.mp hF).1).1).1).2
          apply Classical.byContradiction
          intro q
          rw [if_neg q] at this
          simp at this
        exact ih (m + 1) _ _ (by omega) (by omega)
    · rw [@if_neg _ (Classical.propDecidable _) hs]
      exact h2
theorem ag_book (w : q_Sm) (hI : Inv w) (x1 : Int32) : ag_W Inv 998 1 er_I mX11_book mX12_book w [.int x1] := by
  obtain ⟨T, β, C, n, S, B, m, hC, hPst, hImg, hTp, hCnt⟩ := id hI
  obtain ⟨nt, Y, hnt, t1, t2, t3⟩ := id hTp
  by_cases hbad : x1 < 0 ∨ (100 : Int32) < x1 ∨ nI nt < x1
  · refine agW_no hI "java/lang/IllegalArgumentException" (nI 1) 14 1 (by omega) ⟨rfl, rfl⟩ (fun Q X hX => ?_) (fun u hu Q X hQ => ?_)
    · apply eX11_book
      unfold vX11_book_0
      exact K_openNo (d := 987) t1 hbad hX
    · apply eX12_book
      unfold vX12_book_0
      rintro _ rfl
      have e2 : (q_wI u 79 0 0).1 79 2 = nI nt := by rw [rd_j (by decide), hu _ _ (by decide), t2]
      rw [e2]
      refine ⟨fun _ => R_no (k := 1) (t := 1) (by omega) (by omega) (by omega) ⟨fun z => absurd rfl z, fun _ => ⟨_, rfl, hQ⟩⟩, fun z => ⟨fun _ => R_no (k := 1) (t := 1) (by omega) (by omega) (by omega) ⟨fun z => absurd rfl z, fun _ => ⟨_, rfl, hQ⟩⟩, fun z2 => ⟨fun _ => R_no (k := 1) (t := 1) (by omega) (by omega) (by omega) ⟨fun z => absurd rfl z, fun _ => ⟨_, rfl, hQ⟩⟩, fun z3 => ?_⟩⟩⟩
      rcases hbad with q | q | q
      · exact absurd q z
      · exact absurd q z3
      · exact absurd q z2
  obtain ⟨j, hj, rfl⟩ := in_ok (x := x1) (n := nt) (by omega) (fun z => hbad (Or.inl z)) (fun z => hbad (Or.inr (Or.inr z)))
  have hj100 : j ≤ 100 := by
    apply Classical.byContradiction
    intro q
    refine hbad (Or.inr (Or.inl ?_))
    rw [L_100, nI_ltI (by omega) (by omega)]
    omega
  have hids := hC.1
  have hb8 := hC.2.2.2.2.2.2.2
  generalize hr : bkp j Y 11 0 0 (fun _ => 0) = r
  have hrm : r.2.1 ≤ 10 := by rw [← hr]; exact bkp_m 11 0 0 _ rfl (by omega)
  -- the reference, from any memory that the class leaves
  have ref : ∀ (u : q_Sm) (Q : Int32 → q_Sm → Prop), (∀ i k, i ≠ 2 → ¬ (44 ≤ i ∧ i ≤ 51) → u.1 i k = w.1 i k) →
      (r.1 = none → ∀ z, z.2 = u.2 → (∀ i k, ¬ (i = 79 ∧ (k ≤ 8 ∨ k = 55)) → i ≠ 107 → i ≠ 108 → z.1 i k = u.1 i k) → z.1 79 0 = 0 → z.1 79 2 = nI 0 → z.1 79 8 = oI none → z.1 79 55 = nI r.2.1 → (∀ k, k < 3 * r.2.1 → z.1 108 k = nI (r.2.2 k)) → Q (nI r.2.1) z) →
      (∀ k p, r.1 = some (k, p) → ∀ z, z.2 = u.2 → (∀ i k, ¬ (i = 79 ∧ k ≤ 8) → i ≠ 107 → z.1 i k = u.1 i k) → z.1 79 0 = 0 → z.1 79 2 = nI 0 → z.1 79 8 = nI p → Q (nI k - 10) z) →
      s_EvI 999 0 mX12_book u [.ref 79, .int (nI j)] Q X0 := by
    intro u Q gu q1 q2
    apply eX12_book
    unfold vX12_book_0
    intro w1 e1
    have g1 : ∀ i k, ¬ (i = 79 ∧ k = 0) → w1.1 i k = u.1 i k := fun i k q => by rw [e1, rd_ne (by omega)]
    have g10 : w1.1 79 0 = 0 := by rw [e1, rd_s]
    have g12 : w1.2 = u.2 := by rw [e1]; rfl
    clear e1
    rw [g1 79 2 (by omega), gu 79 2 (by omega) (by omega), t2, L_0, L_100, nI_ltI (by omega) (by omega), nI_ltI (by omega) (by omega), nI_ltI (by omega) (by omega)]
    refine ⟨fun z => absurd z (by omega), fun _ => ⟨fun z => absurd z (by omega), fun _ => ⟨fun z => absurd z (by omega), fun _ => R_may1 g10 ⟨fun _ => ?_, fun z => absurd (by decide) z⟩⟩⟩⟩
    refine R_begins (d := 997) (n := nt) (Y := Y) hnt hj (fun k hk => ⟨(t3 k hk).1, by rw [g1 81 k (by omega), gu 81 k (by omega) (by omega)]; exact (t3 k hk).2.1⟩) (fun u2 f2 tt2 ff2 h792 => ?_)
    refine R_bookLoop (d := 990) (N := j) (Y := Y) 11 0 0 (fun _ => 0) u2 rfl (by omega) tt2 ff2 (fun k hk => absurd hk (by omega)) (fun u3 m3 f3 ff3 h3 => ?_)
    rw [hr] at ff3 h3
    have h32 : u3.2 = u.2 := f3.1.trans (f2.1.trans g12)
    have hc3 : ∀ i k, ¬ (i = 79 ∧ k ≤ 8) → i ≠ 107 → u3.1 i k = u.1 i k := by
      intro i k z1 z2
      have b1 : aRb i k = false := by simp [aRb, aRx]; omega
      have b2 : aBg i k = false := by simp [aBg]; omega
      rw [f3.2 i k b1, f2.2 i k b2, g1 i k (by omega)]
    have h30 : u3.1 79 0 = 0 := by rw [f3.2 79 0 rfl, f2.2 79 0 rfl]; exact g10
    have h32b : u3.1 79 2 = nI 0 := by rw [f3.2 79 2 rfl]; exact h792
    refine R_bookEnd (d := 996) ff3 hrm h3 (fun q z z2 gz z8 z55 z108 => ?_) (fun k p q z z2 gz z8 => ?_)
    · exact q1 q z (z2.trans h32) (fun i k y1 y2 y3 => by rw [gz i k (by omega) y3]; exact hc3 i k (by omega) y2) ((gz 79 0 (by omega) (by omega)).trans h30) ((gz 79 2 (by omega) (by omega)).trans h32b) z8 z55 z108
    · exact q2 k p q z (z2.trans h32) (fun i k y1 y2 => by rw [gz i k (by omega)]; exact hc3 i k (by omega) y2) ((gz 79 0 (by omega)).trans h30) ((gz 79 2 (by omega)).trans h32b) z8
  have hid3 := hids.2.2
  have ho : w.2.2.2.2.2.2.2 = 44 ∨ w.2.2.2.2.2.2.2 = 48 := by omega
  show s_EvI 998 1 mX11_book w [.ref 1, .int (nI j)] _ _
  apply eX11_book
  unfold vX11_book_0
  refine K_openText (d := 987) (L := 100) (n := nt) (Y := Y) (by omega) hj100 hnt hj t1 (fun k hk => ⟨(t3 k hk).1, (t3 k hk).2.2⟩) (fun u2 f2 tt2 ff2 h21 => ?_)
  rw [f2.1]
  refine ⟨id_0 ho, K_bookRead (d := 989) ho tt2 ff2 (fun u4 f4 ff4 b4 => ?_)⟩
  rw [hr] at ff4 b4
  have h42 : u4.2 = w.2 := f4.1.trans f2.1
  have g4 : ∀ i k, i ≠ 2 → ¬ (i = w.2.2.2.2.2.2.2 ∧ k = 0) → i ≠ w.2.2.2.2.2.2.2 + 1 → i ≠ w.2.2.2.2.2.2.2 + 2 → i ≠ w.2.2.2.2.2.2.2 + 3 → u4.1 i k = w.1 i k := by
    intro i k y1 y2 y3 y4 y5
    have b1 : aBk w.2.2.2.2.2.2.2 i k = false := by simp [aBk, aTx, y1, y3, y4, y5]; omega
    have b2 : aOp i k = false := by simp [aOp, y1]
    rw [f4.2 i k b1, f2.2 i k b2]
  have g4a : ∀ i k, i ≠ 2 → ¬ (44 ≤ i ∧ i ≤ 51) → u4.1 i k = w.1 i k := fun i k y1 y2 => g4 i k y1 (by omega) (by omega) (by omega) (by omega)
  have h421 : u4.1 2 1 = nI 0 := by
    have b1 : aBk w.2.2.2.2.2.2.2 2 1 = false := by simp [aBk, aTx]; omega
    rw [f4.2 2 1 b1]
    exact h21
  apply eX10_failed
  unfold vX10_failed_0
  rw [fC_5 ff4, s_Ii, s_Ii]
  refine ⟨fun q => ⟨fun _ => ?_, fun z => absurd rfl z⟩, fun q => ⟨fun z => absurd z (by decide), fun _ => ?_⟩⟩
  · have b4 := b4 q
    rintro _ rfl
    intro w8 e8
    have e81 : w8.1 = u4.1 := by rw [e8]
    have e8i : w8.2.2 = (w.2.2.1, w.2.2.2.1, w.2.2.2.2.1, w.2.2.2.2.2.1, w.2.2.2.2.2.2.2, w.2.2.2.2.2.2.1) := by rw [e8, h42]
    have e87 : w8.2.1 75 0 = w.2.1 75 0 := by rw [e8, h42]
    clear e8
    rw [e8i, e81]
    refine ⟨id_0 ho, ?_⟩
    show s_I _ (some (.int (u4.1 w.2.2.2.2.2.2.2 0))) w8
    rw [b4.2.1, s_Ii]
    refine ref (q_wJ w8 116 0 _) _ (fun i k y1 y2 => by show w8.1 i k = _; rw [e81]; exact g4a i k y1 y2) (fun _ z z2 gz z0 z792 z8 z55 z108 => ⟨z0, ?_, ?_⟩) (fun k p y => by rw [q] at y; simp at y)
    · rw [z2]
      simp [q_wJ, q_up]
    · have gz : ∀ i k, ¬ (i = 79 ∧ (k ≤ 8 ∨ k = 55)) → i ≠ 107 → i ≠ 108 → z.1 i k = u4.1 i k := fun i k y1 y2 y3 => by rw [gz i k y1 y2 y3]; show w8.1 i k = _; rw [e81]
      have zi : z.2.2 = (w.2.2.1, w.2.2.2.1, w.2.2.2.2.1, w.2.2.2.2.2.1, w.2.2.2.2.2.2.2, w.2.2.2.2.2.2.1) := by rw [z2]; exact e8i
      rw [q] at ff4
      refine Inv_book (B' := r.2.2) (m' := r.2.1) hC hPst hImg hCnt (fun i k y1 y2 y3 y4 y5 => by rw [gz i k y3 y4 y5]; exact g4a i k y1 y2) ?_ (by rw [zi]) (by rw [zi]) ?_ ?_ ?_ z792 (by rw [z2]; exact (z75 _ _).trans e87)
      · unfold ids
        rw [zi]
        exact ⟨hids.1, hids.2.1, by
          show (w.2.2.2.2.2.2.2 = 44 ∧ w.2.2.2.2.2.2.1 = 48) ∨ (w.2.2.2.2.2.2.2 = 48 ∧ w.2.2.2.2.2.2.1 = 44)
          omega⟩
      · unfold bk
        rw [zi]
        refine ⟨hrm, ?_, z55, fun i hi => ⟨⟨?_, ?_, ?_⟩, ⟨z108 _ (by omega), z108 _ (by omega), z108 _ (by omega)⟩, (b4.2.2 i hi).2⟩⟩
        · show z.1 w.2.2.2.2.2.2.2 0 = _
          rw [gz _ _ (by omega) (by omega) (by omega)]; exact b4.2.1
        · show z.1 (w.2.2.2.2.2.2.2 + 1) i = _
          rw [gz _ _ (by omega) (by omega) (by omega)]; exact (b4.2.2 i hi).1.1
        · show z.1 (w.2.2.2.2.2.2.2 + 2) i = _
          rw [gz _ _ (by omega) (by omega) (by omega)]; exact (b4.2.2 i hi).1.2.1
        · show z.1 (w.2.2.2.2.2.2.2 + 3) i = _
          rw [gz _ _ (by omega) (by omega) (by omega)]; exact (b4.2.2 i hi).1.2.2
      · rw [gz 2 6 (by omega) (by omega) (by omega), z8]
        exact ff4.2
      · rw [gz 2 1 (by omega) (by omega) (by omega)]
        exact h421
  · cases hx : r.1 with
    | none => exact absurd hx q
    | some x =>
      obtain ⟨k, p⟩ := x
      rw [hx] at ff4
      have ff4 : u4.1 2 5 = nI k ∧ u4.1 2 6 = nI p ∧ 0 < k ∧ k < 4 ∧ p ≤ 600 := ff4
      apply eX10_faultKind
      unfold vX10_faultKind_0
      rw [s_Ii, ff4.1, s_Ii]
      refine ref (q_wJ u4 116 0 _) _ (fun i k y1 y2 => g4a i k y1 y2) (fun y => absurd y q) (fun k' p' y z z2 gz z0 z792 z8 => ?_)
      rw [hx] at y
      simp at y
      obtain ⟨rfl, rfl⟩ := y
      refine ⟨z0, ?_, ?_⟩
      · rw [z2]
        simp [q_wJ, q_up]
      · have gz : ∀ i k, ¬ (i = 79 ∧ k ≤ 8) → i ≠ 107 → z.1 i k = u4.1 i k := gz
        have zi : z.2.2 = w.2.2 := by rw [z2]; show u4.2.2 = _; rw [h42]
        refine Inv_book (B' := B) (m' := m) hC hPst hImg hCnt (fun i k y1 y2 y3 y4 y5 => by rw [gz i k (by omega) y4]; exact g4a i k y1 y2) (by unfold ids; rw [zi]; exact hids) (by rw [zi]) (by rw [zi]) ?_ ?_ ?_ z792 (by rw [z2]; exact (z75 _ _).trans (by rw [h42]))
        · unfold bk
          rw [zi]
          have hz : ∀ i k, ((i = 44 ∨ i = 48) ∧ i ≠ w.2.2.2.2.2.2.2 ∨ (44 < i ∧ i < 52 ∧ i ≠ 48 ∧ i ≠ w.2.2.2.2.2.2.2 + 1 ∧ i ≠ w.2.2.2.2.2.2.2 + 2 ∧ i ≠ w.2.2.2.2.2.2.2 + 3)) ∨ (i = 79 ∧ k = 55) ∨ i = 108 → z.1 i k = w.1 i k := by
            intro i k y
            rw [gz i k (by omega) (by omega)]
            exact g4 i k (by omega) (by omega) (by omega) (by omega) (by omega)
          refine ⟨hb8.1, ?_, ?_, fun i hi => ⟨⟨?_, ?_, ?_⟩, ⟨?_, ?_, ?_⟩, (hb8.2.2.2 i hi).2.2⟩⟩
          · rw [hz _ _ (by omega)]; exact hb8.2.1
          · rw [hz _ _ (by omega)]; exact hb8.2.2.1
          · rw [hz _ _ (by omega)]; exact (hb8.2.2.2 i hi).1.1
          · rw [hz _ _ (by omega)]; exact (hb8.2.2.2 i hi).1.2.1
          · rw [hz _ _ (by omega)]; exact (hb8.2.2.2 i hi).1.2.2
          · rw [hz _ _ (by omega)]; exact (hb8.2.2.2 i hi).2.1.1
          · rw [hz _ _ (by omega)]; exact (hb8.2.2.2 i hi).2.1.2.1
          · rw [hz _ _ (by omega)]; exact (hb8.2.2.2 i hi).2.1.2.2
        · rw [gz 2 6 (by omega) (by omega), z8]
          exact ff4.2.1
        · rw [gz 2 1 (by omega) (by omega)]
          exact h421
