/-! agreement: coast -/
theorem aRc_n {i k : Nat} (h1 : ¬ (i = 79 ∧ (k ≤ 8 ∨ 24 ≤ k ∧ k ≤ 28))) (h2 : ¬ (82 ≤ i ∧ i ≤ 88)) : aRc i k = false := by
  simp [aRc, aRx]
  omega
theorem Inv_co0 {o : Nat} {T : Tb} {β C : Nat → Nat} {n : Nat} {S B : Nat → Nat} {m : Nat} {w z : q_Sm} (hC : Co T β C n S B m w) (hPst : pst T w) (hImg : img T w) (hCnt : cnt w) (ho : w.2.2.2.1 = o)
    (gg : ∀ i j, i ≠ 2 → ¬ (o ≤ i ∧ i ≤ o + 15) → ¬ (i = 79 ∧ (j ≤ 8 ∨ 24 ≤ j ∧ j ≤ 28)) → ¬ (82 ≤ i ∧ i ≤ 88) → z.1 i j = w.1 i j) (h2 : z.2.2 = w.2.2) (h26 : z.1 2 6 = z.1 79 8) (h21 : z.1 2 1 = nI 0) (h792 : z.1 79 2 = nI 0) (h75 : z.2.1 75 0 = w.2.1 75 0) : Inv z := by
  obtain ⟨a1, a2, a3, a4, a5, a6, a7, a8⟩ := hC
  have i1 := a1.1
  have hl := a2.2.1
  have hb := a1.2.2
  refine ⟨T, β, C, n, S, B, m, ?_, hPst.eq (fun i j q => gg i j (by omega) (by omega) (by omega) (by omega)), hImg.eq (fun i j q => gg i j (by omega) (by omega) (by omega) (by omega)), ⟨0, fun _ => 0, by omega, h21, h792, fun k hk => absurd hk (by omega)⟩, ?_⟩
  · unfold Co ids
    rw [h2]
    refine ⟨a1, ⟨a2.1, a2.2.1, a2.2.2.1, a2.2.2.2.1.eq (fun i j q q2 => gg i j (by omega) (by omega) (by omega) (by omega)), a2.2.2.2.2.1, ?_, fun j hj => ?_⟩, a3.eq (fun i j q => gg i j (by omega) (by omega) (by omega) (by omega)), a4.eq (fun j => gg _ _ (by omega) (by omega) (by omega) (by omega)), a5.eq (fun j => gg _ _ (by omega) (by omega) (by omega) (by omega)), a6, a7.eq (fun i j q => gg i j (by omega) (by omega) (by omega) (by omega)), a8.eq h2 (by omega) (fun i j q => gg i j (by omega) (by omega) (by omega) (by omega))⟩
    · rw [gg _ _ (by omega) (by omega) (by omega) (by omega)]; exact a2.2.2.2.2.2.1
    · rw [gg _ _ (by omega) (by omega) (by omega) (by omega)]; exact a2.2.2.2.2.2.2 j hj
  · obtain ⟨d1, d2, d3, d4⟩ := hCnt
    refine ⟨?_, ?_, ?_, h26, h75.trans d4.2⟩
    · rw [gg 1 13 (by omega) (by omega) (by omega) (by omega), gg 80 0 (by omega) (by omega) (by omega) (by omega)]; exact d1
    · rw [gg 1 14 (by omega) (by omega) (by omega) (by omega), gg 80 1 (by omega) (by omega) (by omega) (by omega)]; exact d2
    · rw [gg 1 12 (by omega) (by omega) (by omega) (by omega), gg 79 46 (by omega) (by omega) (by omega) (by omega)]; exact d3
theorem ag_coast (w : q_Sm) (hI : Inv w) (x1 : Int32) : ag_W Inv 998 1 er_I mX11_coast mX12_coast w [.int x1] := by
  obtain ⟨T, β, C, n, S, B, m, hC, hPst, hImg, hTp, hCnt⟩ := id hI
  obtain ⟨nt, Y, hnt, t1, t2, t3⟩ := id hTp
  by_cases hbad : x1 < 0 ∨ nI nt < x1
  · refine agW_no hI "java/lang/IllegalArgumentException" (nI 1) 14 1 (by omega) ⟨rfl, rfl⟩ (fun Q X hX => ?_) (fun u hu Q X hQ => ?_)
    · apply eX11_coast
      unfold vX11_coast_0
      exact K_openNo (d := 987) t1 (hbad.imp id Or.inr) hX
    · apply eX12_coast
      unfold vX12_coast_0
      rintro _ rfl
      have e2 : (q_wI u 79 0 0).1 79 2 = nI nt := by rw [rd_j (by decide), hu _ _ (by decide), t2]
      rw [e2]
      refine ⟨fun _ => R_no (k := 1) (t := 1) (by omega) (by omega) (by omega) ⟨fun z => absurd rfl z, fun _ => ⟨_, rfl, hQ⟩⟩, fun z => ⟨fun _ => R_no (k := 1) (t := 1) (by omega) (by omega) (by omega) ⟨fun z => absurd rfl z, fun _ => ⟨_, rfl, hQ⟩⟩, fun z2 => ?_⟩⟩
      rcases hbad with q | q
      · exact absurd q z
      · exact absurd q z2
  obtain ⟨j, hj, rfl⟩ := in_ok (x := x1) (n := nt) (by omega) (fun z => hbad (Or.inl z)) (fun z => hbad (Or.inr z))
  have hids := hC.1
  have hid1 := hids.1
  have hid2 := hids.2.1
  have hid3 := hids.2.2
  have ho : w.2.2.2.1 = 4 ∨ w.2.2.2.1 = 20 := by omega
  have hl : w.2.2.2.2.1 = 36 ∨ w.2.2.2.2.1 = 40 := by omega
  have hb : w.2.2.2.2.2.2.1 = 44 ∨ w.2.2.2.2.2.2.1 = 48 := by omega
  -- the reference begins, from any memory that the class leaves
  have ref : ∀ (u : q_Sm) (Q : Int32 → q_Sm → Prop), (∀ k, u.1 79 k = w.1 79 k) → (∀ k, u.1 81 k = w.1 81 k) →
      (∀ w_6 : q_Sm, w_6.2 = u.2 → (∀ i k, ¬ (i = 79 ∧ (k ≤ 8 ∨ 24 ≤ k ∧ k ≤ 28)) → ¬ (82 ≤ i ∧ i ≤ 88) → w_6.1 i k = u.1 i k) → w_6.1 79 0 = 0 → w_6.1 79 2 = nI 0 → tR j Y 0 w_6 → fR none w_6 → rD t0 w_6 → s_Ex (989 + 10) 0 mX12_coast 44 [some (.ref 79), none, some (.int (nI 0)), none, none, none] [] w_6 (s_I Q) X0) →
      s_EvI 999 0 mX12_coast u [.ref 79, .int (nI j)] Q X0 := by
    intro u Q gu gu1 q1
    apply eX12_coast
    unfold vX12_coast_0
    intro w1 e1
    have g1 : ∀ i k, ¬ (i = 79 ∧ k = 0) → w1.1 i k = u.1 i k := fun i k q => by rw [e1, rd_ne (by omega)]
    have g10 : w1.1 79 0 = 0 := by rw [e1, rd_s]
    have g12 : w1.2 = u.2 := by rw [e1]; rfl
    clear e1
    rw [g1 79 2 (by omega), gu 2, t2, L_0, nI_ltI (by omega) (by omega), nI_ltI (by omega) (by omega)]
    refine ⟨fun z => absurd z (by omega), fun _ => ⟨fun z => absurd z (by omega), fun _ => R_may1 g10 ⟨fun _ => ?_, fun z => absurd (by decide) z⟩⟩⟩
    refine R_begins (d := 997) (n := nt) (Y := Y) hnt hj (fun k hk => ⟨(t3 k hk).1, by rw [g1 81 k (by omega), gu1 k]; exact (t3 k hk).2.1⟩) (fun u2 f2 tt2 ff2 h792 => ?_)
    refine R_clears (d := 997) (fun u3 f3 d3 => ?_)
    have g3 : ∀ i k, ¬ (i = 79 ∧ 24 ≤ k ∧ k ≤ 28) → ¬ (82 ≤ i ∧ i ≤ 88) → u3.1 i k = u2.1 i k := fun i k y1 y2 => f3.2 i k (by simp [aCr]; omega)
    refine q1 u3 (by rw [f3.1, f2.1]; exact g12) (fun i k y1 y2 => ?_) ?_ ?_ (tt2.g (fun i k y => g3 i k (by omega) (by omega))) (ff2.mv (g3 _ _ (by omega) (by omega)) (g3 _ _ (by omega) (by omega))) d3
    · have b2 : aBg i k = false := by simp [aBg]; omega
      rw [g3 i k (by omega) y2, f2.2 i k b2, g1 i k (by omega)]
    · rw [g3 79 0 (by omega) (by omega), f2.2 79 0 rfl]; exact g10
    · rw [g3 79 2 (by omega) (by omega)]; exact h792
  have cells : ∀ {u2 u3 u4 : q_Sm}, fr aOp w u2 → fr (aCl w.2.2.2.1) u2 u3 → fr (aCo w.2.2.2.1) u3 u4 → u2.1 2 1 = nI 0 → u4.2 = w.2 ∧ (∀ i k, i ≠ 2 → ¬ (w.2.2.2.1 ≤ i ∧ i ≤ w.2.2.2.1 + 15) → u4.1 i k = w.1 i k) ∧ u4.1 2 1 = nI 0 := by
    intro u2 u3 u4 f2 f3 f4 h21
    refine ⟨(f4.1.trans f3.1).trans f2.1, fun i k y1 y2 => ?_, ?_⟩
    · have b1 : aCo w.2.2.2.1 i k = false := by simp [aCo, aTx, y1]; omega
      have b2 : aCl w.2.2.2.1 i k = false := by simp [aCl]; omega
      have b3 : aOp i k = false := by simp [aOp, y1]
      rw [f4.2 i k b1, f3.2 i k b2, f2.2 i k b3]
    · have b1 : aCo w.2.2.2.1 2 1 = false := by simp [aCo, aTx]; omega
      have b2 : aCl w.2.2.2.1 2 1 = false := by simp [aCl]; omega
      rw [f4.2 2 1 b1, f3.2 2 1 b2]
      exact h21
  have lowC : ∀ {u2 u3 : q_Sm}, fr (aCl w.2.2.2.1) u2 u3 → ∀ i k, i = 2 ∨ i = 3 → u3.1 i k = u2.1 i k := by
    intro u2 u3 f3 i k y
    exact f3.2 i k (by simp [aCl]; omega)
  rcases coast_out (o := w.2.2.2.1) (N := j) (Y := Y) ho 60 0 0 t0 (by omega) tb_t0 (by omega) with ⟨y, uc, ur⟩ | ⟨T', ht', uc, ur⟩
  · show s_EvI 998 1 mX11_coast w [.ref 1, .int (nI j)] _ _
    apply eX11_coast
    unfold vX11_coast_0
    refine K_openText (d := 987) (L := 600) (n := nt) (Y := Y) (by omega) (by omega) hnt hj t1 (fun k hk => ⟨(t3 k hk).1, (t3 k hk).2.2⟩) (fun u2 f2 tt2 ff2 h21 => ?_)
    rw [f2.1]
    refine ⟨ia_0 ho, ?_⟩
    apply eX2_read
    unfold vX2_read_0
    refine ⟨ia_0 ho, K_clear (d := 994) ho (fun u3 f3 d3 => uc 988 _ u3 _ (tt2.g (lowC f3)) (ff2.g (lowC f3)) d3 (fun u4 f4 ff4 => ?_))⟩
    obtain ⟨h42, g4, h421⟩ := cells f2 f3 f4 h21
    obtain ⟨k, p⟩ := y
    have ff4' : u4.1 2 5 = nI k ∧ u4.1 2 6 = nI p ∧ 0 < k ∧ k < 4 ∧ p ≤ 600 := ff4
    refine K_failed (d := 996) ff4 (fun _ => ⟨fun z => absurd z (by decide), fun _ => ?_⟩) (fun z => by simp at z)
    apply eX10_faultKind
    unfold vX10_faultKind_0
    rw [s_Ii, ff4'.1, s_Ii]
    refine ref (q_wJ u4 116 0 _) _ (fun k => g4 79 k (by omega) (by omega)) (fun k => g4 81 k (by omega) (by omega)) (fun w6 w62 g6 w60 w6b t6 ff6 d6 => ur 989 _ w6 _ t6 ff6 d6 (fun u7 f7 ff7 => R_coastEnd0 (d := 996) ff7 (fun z ez => ⟨?_, ?_, ?_⟩)))
    · rw [ez, rd_j (by decide), f7.2 79 0 rfl]; exact w60
    · rw [ez]
      show u7.2.1 116 0 = _
      rw [f7.1, w62]
      simp [q_wJ, q_up]
    · have gz : ∀ i k, i ≠ 2 → ¬ (w.2.2.2.1 ≤ i ∧ i ≤ w.2.2.2.1 + 15) → ¬ (i = 79 ∧ (k ≤ 8 ∨ 24 ≤ k ∧ k ≤ 28)) → ¬ (82 ≤ i ∧ i ≤ 88) → z.1 i k = w.1 i k := by
        intro i k y1 y2 y3 y4
        rw [ez, rd_ne (by omega), f7.2 i k (aRc_n y3 y4), g6 i k y3 y4]
        exact g4 i k y1 y2
      have gz2 : ∀ k, z.1 2 k = u4.1 2 k := by
        intro k
        rw [ez, rd_ne (by omega), f7.2 2 k (aRc_n (by omega) (by omega)), g6 2 k (by omega) (by omega)]
        rfl
      have zi : z.2.2 = w.2.2 := by
        rw [ez]
        show u7.2.2 = _
        rw [f7.1, w62]
        show u4.2.2 = _
        rw [h42]
      refine Inv_co0 hC hPst hImg hCnt rfl gz zi ?_ ?_ ?_ (by rw [ez]; show u7.2.1 75 0 = _; rw [f7.1, w62]; exact (z75 _ _).trans (by rw [h42]))
      · rw [gz2 6, ez, rd_s]; exact ff4'.2.1
      · rw [gz2 1]; exact h421
      · rw [ez, rd_j (by decide), f7.2 79 2 rfl]; exact w6b
  · show s_EvI 998 1 mX11_coast w [.ref 1, .int (nI j)] _ _
    apply eX11_coast
    unfold vX11_coast_0
    refine K_openText (d := 987) (L := 600) (n := nt) (Y := Y) (by omega) (by omega) hnt hj t1 (fun k hk => ⟨(t3 k hk).1, (t3 k hk).2.2⟩) (fun u2 f2 tt2 ff2 h21 => ?_)
    rw [f2.1]
    refine ⟨ia_0 ho, ?_⟩
    apply eX2_read
    unfold vX2_read_0
    refine ⟨ia_0 ho, K_clear (d := 994) ho (fun u3 f3 d3 => uc 988 _ u3 _ (tt2.g (lowC f3)) (ff2.g (lowC f3)) d3 (fun u4 β' f4 ff4 hT4 => ?_))⟩
    obtain ⟨h42, g4, h421⟩ := cells f2 f3 f4 h21
    refine K_failed (d := 996) ff4 (fun z => absurd rfl z) (fun _ => ⟨fun _ => ?_, fun z => absurd rfl z⟩)
    rintro _ rfl
    intro w8 e8
    have e81 : w8.1 = u4.1 := by rw [e8]
    have e8i : w8.2.2 = (w.2.2.2.1, w.2.2.1, w.2.2.2.2.1, w.2.2.2.2.2.1, w.2.2.2.2.2.2.1, w.2.2.2.2.2.2.2) := by rw [e8, h42]
    have e87 : w8.2.1 75 0 = 0 := by rw [e8, h42]; exact hCnt.2.2.2.2
    clear e8
    refine K_startAnew (d := 992) (T := T') (β := β') ho hl hb (by rw [e8i]) (by rw [e8i]) (by rw [e8i]) ht' (hT4.eq (fun i k _ _ => by rw [e81])) e87 (fun u10 i10 z10 g10 k10 cb c58 c11 c12 r10 m10 => ?_)
    have io10 : u10.2.2.1 = w.2.2.2.1 := by rw [i10, e8i]
    rw [io10]
    refine ⟨ia_0 ho, ?_⟩
    rw [k10.2.2.2.1.1.2.1, s_Ii]
    have na : ∀ i k, i ≠ 57 → i ≠ 38 → i ≠ 39 → i ≠ 42 → i ≠ 43 → aR 56 i k = false := fun i k y1 y2 y3 y4 y5 => by simp [aR, aL, y1, y2, y3, y4, y5]
    have ne : ∀ i k, ¬ (36 ≤ i ∧ i ≤ 43) → aEm w.2.2.2.2.1 i k = false := fun i k y => by simp [aEm]; omega
    have gu : ∀ i k, ¬ (36 ≤ i ∧ i ≤ 51) → i ≠ 57 → i ≠ 58 → ¬ (i = 1 ∧ (k = 11 ∨ k = 12)) → i ≠ 76 → i ≠ 73 → u10.1 i k = u4.1 i k := fun i k y1 y2 y3 y4 y5 y6 => by
      rw [g10 i k (ne i k (by omega)) (by omega) (by omega) y4 (na i k y2 (by omega) (by omega) (by omega) (by omega)) y5 (by omega), e81]
    have gw : ∀ i k, i ≠ 2 → ¬ (w.2.2.2.1 ≤ i ∧ i ≤ w.2.2.2.1 + 15) → ¬ (36 ≤ i ∧ i ≤ 51) → i ≠ 57 → i ≠ 58 → ¬ (i = 1 ∧ (k = 11 ∨ k = 12)) → i ≠ 76 → i ≠ 73 → u10.1 i k = w.1 i k := fun i k y0 y00 y1 y2 y3 y4 y5 y6 => by
      rw [gu i k y1 y2 y3 y4 y5 y6, g4 i k y0 y00]
    refine ref (q_wJ u10 116 0 _) _ (fun k => gw 79 k (by omega) (by omega) (by omega) (by omega) (by omega) (by omega) (by omega) (by omega)) (fun k => gw 81 k (by omega) (by omega) (by omega) (by omega) (by omega) (by omega) (by omega) (by omega)) (fun w6 w62 g6 w60 w6b t6 ff6 d6 => ur 989 _ w6 _ t6 ff6 d6 (fun u7 f7 ff7 d7 => R_coastEnd1 (d := 996) ht' ff7 d7 (fun z z2 gz z8 zT c40 c55 c45 c66 c46 zr => ⟨?_, ?_, ?_⟩)))
    · rw [gz 79 0 (by omega) (by omega) (by omega), f7.2 79 0 rfl]; exact w60
    · rw [z2, f7.1, w62]
      simp [q_wJ, q_up]
    · have zc : ∀ i k, i ≠ 79 → ¬ (82 ≤ i ∧ i ≤ 95) → i ≠ 104 → z.1 i k = u10.1 i k := by
        intro i k y1 y2 y3
        rw [gz i k (by omega) (by omega) y3, f7.2 i k (aRc_n (by omega) (by omega)), g6 i k (by omega) (by omega)]
        rfl
      have zi : z.2.2 = (w.2.2.2.1, w.2.2.1, w.2.2.2.2.1, w.2.2.2.2.2.1, w.2.2.2.2.2.2.1, w.2.2.2.2.2.2.2) := by
        rw [z2, f7.1, w62]
        show u10.2.2 = _
        rw [i10, e8i]
      have zw : ∀ i k, i = 80 ∨ (i = 1 ∧ 13 ≤ k) → z.1 i k = w.1 i k := fun i k y => by
        rw [zc i k (by omega) (by omega) (by omega)]
        exact gw i k (by omega) (by omega) (by omega) (by omega) (by omega) (by omega) (by omega) (by omega)
      refine ⟨T', β', plC, 5, s0 T', fun _ => 0, 0, ?_, ⟨0, fun _ _ => 0, by omega, ?_, c45, fun i hi => absurd hi (by omega)⟩, ⟨0, by omega, ?_, c66, fun i hi => absurd hi (by omega)⟩, ⟨0, fun _ => 0, by omega, ?_, ?_, fun k hk => absurd hk (by omega)⟩, ?_, ?_, ?_, ?_, ?_⟩
      · unfold Co ids bk
        rw [zi]
        refine ⟨⟨by
          show (w.2.2.2.1 = 4 ∧ w.2.2.1 = 20) ∨ (w.2.2.2.1 = 20 ∧ w.2.2.1 = 4)
          omega, hid2, hid3⟩, k10.eq (fun i k y => zc i k (by omega) (by omega) (by omega)), ⟨ht', zT, pl_lwf, Or.inl ⟨c40, rfl, rfl⟩⟩, r10.eq (fun k => zc 57 k (by omega) (by omega) (by omega)), zr, okr_s0 ht', m10.eq (fun i k y => zc i k (by omega) (by omega) (by omega)), by omega, ?_, c55, fun i hi => absurd hi (by omega)⟩
        show z.1 w.2.2.2.2.2.2.1 0 = _
        rw [zc _ _ (by omega) (by omega) (by omega)]; exact cb
      · rw [zc 58 1 (by omega) (by omega) (by omega)]; exact c58
      · rw [zc 1 11 (by omega) (by omega) (by omega)]; exact c11
      · rw [zc 2 1 (by omega) (by omega) (by omega), gu 2 1 (by omega) (by omega) (by omega) (by omega) (by omega) (by omega)]; exact h421
      · rw [gz 79 2 (by omega) (by omega) (by omega), f7.2 79 2 rfl]; exact w6b
      · rw [zw 1 13 (by omega), zw 80 0 (by omega)]; exact hCnt.1
      · rw [zw 1 14 (by omega), zw 80 1 (by omega)]; exact hCnt.2.1
      · rw [zc 1 12 (by omega) (by omega) (by omega), c12, c46]
      · rw [zc 2 6 (by omega) (by omega) (by omega), gu 2 6 (by omega) (by omega) (by omega) (by omega) (by omega) (by omega), z8]; exact ff4.2
      · rw [z2, f7.1, w62]
        exact (z75 _ _).trans z10
