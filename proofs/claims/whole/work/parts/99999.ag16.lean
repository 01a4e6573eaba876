/-! agreement: work -/
/-- cells that a work leaves -/
def kp (i j : Nat) : Prop := (4 ≤ i ∧ i ≤ 37) ∨ i = 40 ∨ i = 41 ∨ (44 ≤ i ∧ i ≤ 51) ∨ (61 ≤ i ∧ i ≤ 66) ∨ i = 73 ∨ i = 76 ∨ (i = 79 ∧ (29 ≤ j ∧ j ≤ 40 ∨ 50 ≤ j)) ∨ i = 80 ∨ i = 81 ∨ (89 ≤ i ∧ i ≤ 99) ∨ i = 108 ∨ i = 115 ∨ (i = 1 ∧ j ≠ 12)
theorem kp_Op {i j : Nat} (h : kp i j) : aOp i j = false := by
  cases hh : aOp i j with
  | false => rfl
  | true => simp [aOp] at hh; unfold kp at h; omega
theorem kp_Wk {i j : Nat} (h : kp i j) : aWk i j = false := by
  cases hh : aWk i j with
  | false => rfl
  | true => simp [aWk, aTx] at hh; unfold kp at h; omega
theorem kp_P {i j : Nat} (h : kp i j) : aP 58 i j = false := by
  cases hh : aP 58 i j with
  | false => rfl
  | true => simp [aP] at hh; unfold kp at h; omega
theorem kp_Ru {i j : Nat} (h : kp i j) : aRu i j = false := by
  cases hh : aRu i j with
  | false => rfl
  | true => simp [aRu, aR, aL] at hh; unfold kp at h; omega
theorem kp_Rk {i j : Nat} (h : kp i j) : aRk i j = false := by
  cases hh : aRk i j with
  | false => rfl
  | true => simp [aRk, aRx] at hh; unfold kp at h; omega
theorem kp_Go {i j : Nat} (h : kp i j) : aGo i j = false := by
  cases hh : aGo i j with
  | false => rfl
  | true => simp [aGo, aS] at hh; unfold kp at h; omega
theorem kp_S {i j : Nat} (h : kp i j) : aS i j = false := by
  cases hh : aS i j with
  | false => rfl
  | true => simp [aS] at hh; unfold kp at h; omega
theorem aWk_n {i j : Nat} (h1 : i ≠ 2) (h2 : ¬ (52 ≤ i ∧ i ≤ 55)) : aWk i j = false := by
  cases hh : aWk i j with
  | false => rfl
  | true => simp [aWk, aTx] at hh; omega
theorem aRk_n {i j : Nat} (h1 : ¬ (i = 79 ∧ (j ≤ 7 ∨ j = 44))) (h2 : i ≠ 102) : aRk i j = false := by
  cases hh : aRk i j with
  | false => rfl
  | true => simp [aRk, aRx] at hh; omega
theorem aRu_n {i j : Nat} (h1 : i ≠ 57) (h2 : ¬ (38 ≤ i ∧ i ≤ 43)) (h3 : ¬ (i = 52 ∧ 4 ≤ j ∧ j ≤ 6)) : aRu i j = false := by
  cases hh : aRu i j with
  | false => rfl
  | true => simp [aRu, aR, aL] at hh; omega
theorem aGo_n {i j : Nat} (h1 : ¬ (i = 79 ∧ 47 ≤ j ∧ j ≤ 49)) (h2 : ¬ (100 ≤ i ∧ i ≤ 105 ∧ i ≠ 102 ∧ i ≠ 103 ∧ i ≠ 104)) : aGo i j = false := by
  cases hh : aGo i j with
  | false => rfl
  | true => simp [aGo, aS] at hh; omega
theorem aOp_n {i j : Nat} (h : i ≠ 2) : aOp i j = false := by simp [aOp, h]
theorem aP_n {i j : Nat} (h1 : i ≠ 59) (h2 : ¬ (i = 58 ∧ j = 1)) : aP 58 i j = false := by
  cases hh : aP 58 i j with
  | false => rfl
  | true => simp [aP] at hh; omega
theorem KE_kp {o l n : Nat} {T : Tb} {β C : Nat → Nat} {w u : q_Sm} (h : KE o l T β C n w) (k : ∀ i j, kp i j → u.1 i j = w.1 i j) : KE o l T β C n u := by
  obtain ⟨h1, h2, h3, h4, h5, h6, h7⟩ := h
  exact ⟨h1, h2, h3, h4.eq (fun i j q1 q2 => k i j (by unfold kp; omega)), h5, (k _ _ (by unfold kp; omega)).trans h6, fun j hj => (k _ _ (by unfold kp; omega)).trans (h7 j hj)⟩
theorem Inv_wk {T : Tb} {β C : Nat → Nat} {n : Nat} {S S' B : Nat → Nat} {m : Nat} {w z : q_Sm} (hC : Co T β C n S B m w) (hImg : img T w) (hCnt : cnt w) (hp : pst T z) (h2 : z.2.2 = w.2.2) (gg : ∀ i j, kp i j → z.1 i j = w.1 i j)
    (hS : cR 57 S' z) (hSr : rR 104 S' z) (hok : okr T S') (h12 : z.1 1 12 = z.1 79 46) (h26 : z.1 2 6 = z.1 79 8) (h21 : z.1 2 1 = nI 0) (h792 : z.1 79 2 = nI 0) (h75 : z.2.1 75 0 = w.2.1 75 0) : Inv z := by
  obtain ⟨a1, a2, a3, a4, a5, a6, a7, a8⟩ := hC
  have hb := a1.2.2
  refine ⟨T, β, C, n, S', B, m, ?_, hp, hImg.eq (fun i j q => gg i j (by unfold kp; omega)), ⟨0, fun _ => 0, by omega, h21, h792, fun k hk => absurd hk (by omega)⟩, ?_⟩
  · unfold Co ids
    rw [h2]
    exact ⟨a1, KE_kp a2 gg, a3.eq (fun i j q => gg i j (by unfold kp; omega)), hS, hSr, hok, a7.eq (fun i j q => gg i j (by unfold kp; omega)), a8.eq h2 (by omega) (fun i j q => gg i j (by unfold kp; omega))⟩
  · obtain ⟨d1, d2, d3, d4⟩ := hCnt
    refine ⟨?_, ?_, h12, h26, h75.trans d4.2⟩
    · rw [gg 1 13 (by unfold kp; omega), gg 80 0 (by unfold kp; omega)]; exact d1
    · rw [gg 1 14 (by unfold kp; omega), gg 80 1 (by unfold kp; omega)]; exact d2
theorem ag_work (w : q_Sm) (hI : Inv w) (x1 : Int32) : ag_W Inv 998 1 er_I mX11_work mX12_work w [.int x1] := by
  obtain ⟨T, β, C, n, S, B, m, hC, hPst, hImg, hTp, hCnt⟩ := id hI
  obtain ⟨nt, Y, hnt, t1, t2, t3⟩ := id hTp
  by_cases hbad : x1 < 0 ∨ (150 : Int32) < x1 ∨ nI nt < x1
  · refine agW_no hI "java/lang/IllegalArgumentException" (nI 1) 14 1 (by omega) ⟨rfl, rfl⟩ (fun Q X hX => ?_) (fun u hu Q X hQ => ?_)
    · apply eX11_work
      unfold vX11_work_0
      exact K_openNo (d := 987) t1 hbad hX
    · apply eX12_work
      unfold vX12_work_0
      rintro _ rfl
      have e2 : (q_wI u 79 0 0).1 79 2 = nI nt := by rw [rd_j (by decide), hu _ _ (by decide), t2]
      rw [e2]
      refine ⟨fun _ => R_no (k := 1) (t := 1) (by omega) (by omega) (by omega) ⟨fun z => absurd rfl z, fun _ => ⟨_, rfl, hQ⟩⟩, fun z => ⟨fun _ => R_no (k := 1) (t := 1) (by omega) (by omega) (by omega) ⟨fun z => absurd rfl z, fun _ => ⟨_, rfl, hQ⟩⟩, fun z2 => ⟨fun _ => R_no (k := 1) (t := 1) (by omega) (by omega) (by omega) ⟨fun z => absurd rfl z, fun _ => ⟨_, rfl, hQ⟩⟩, fun z3 => ?_⟩⟩⟩
      rcases hbad with q | q | q
      · exact absurd q z
      · exact absurd q z3
      · exact absurd q z2
  obtain ⟨j, hj, rfl⟩ := in_ok (x := x1) (n := nt) (by omega) (fun z => hbad (Or.inl z)) (fun z => hbad (Or.inr (Or.inr z)))
  have hj150 : j ≤ 150 := by
    apply Classical.byContradiction
    intro q
    refine hbad (Or.inr (Or.inl ?_))
    rw [L_150, nI_ltI (by omega) (by omega)]
    omega
  have hids := hC.1
  have hKE := hC.2.1
  have hRE := hC.2.2.1
  have ht : tb T := hKE.2.2.1
  have ho : w.2.2.1 = 4 ∨ w.2.2.1 = 20 := hKE.1
  have hSc : cR 57 S w := hC.2.2.2.1
  have hSr : rR 104 S w := hC.2.2.2.2.1
  have hok : okr T S := hC.2.2.2.2.2.1
  have hcc : w.1 w.2.2.1 0 = nI (T 7 0) ∧ w.1 w.2.2.1 3 = nI (T 7 1) := ⟨hKE.2.2.2.1.1.1, hKE.2.2.2.1.1.2.1⟩
  have hrc : w.1 79 29 = nI (T 7 0) ∧ w.1 79 30 = nI (T 7 1) := ⟨hRE.2.1.1.1, hRE.2.1.1.2.1⟩
  obtain ⟨np, P, hnp, p58, p45, pP⟩ := id hPst
  -- the reference begins, from any memory that the class leaves
  have ref : ∀ (u : q_Sm) (Q : Int32 → q_Sm → Prop), (∀ k, u.1 79 k = w.1 79 k) → (∀ k, u.1 81 k = w.1 81 k) →
      (∀ u26 : q_Sm, u26.2 = u.2 → (∀ i k, ¬ (i = 79 ∧ k ≤ 8) → u26.1 i k = u.1 i k) → u26.1 79 0 = 0 → u26.1 79 2 = nI 0 → tR j Y 0 u26 → fR none u26 → u26.1 79 7 = nI 0 → ((¬ (u26.1 79 45) = 16) → ∀ w_27 : q_Sm, w_27 = q_wI u26 79 44 0 → s_Ex (998 + 1) 0 mX12_work 68 [some (.ref (79)), none, none, none] [] w_27 (s_I Q) X0) ∧ (¬ (¬ (u26.1 79 45) = 16) → s_EvI 998 0 mX12_result u26 [.ref (79), .int (0)] (fun v28 u29 => s_I Q (some (.int (-20))) u29) X0)) →
      s_EvI 999 0 mX12_work u [.ref 79, .int (nI j)] Q X0 := by
    intro u Q gu gu1 q1
    apply eX12_work
    unfold vX12_work_0
    intro w1 e1
    have g1 : ∀ i k, ¬ (i = 79 ∧ k = 0) → w1.1 i k = u.1 i k := fun i k q => by rw [e1, rd_ne (by omega)]
    have g10 : w1.1 79 0 = 0 := by rw [e1, rd_s]
    have g12 : w1.2 = u.2 := by rw [e1]; rfl
    clear e1
    have x0 : ¬ nI j < 0 := by
      rw [L_0, nI_ltI (by omega) (by omega)]
      omega
    have x1 : ¬ w1.1 79 2 < nI j := by
      rw [g1 79 2 (by omega), gu 2, t2, nI_ltI (by omega) (by omega)]
      omega
    have x2 : ¬ (150 : Int32) < nI j := by
      rw [L_150, nI_ltI (by omega) (by omega)]
      omega
    refine ⟨fun z => absurd z x0, fun _ => ⟨fun z => absurd z x1, fun _ => ⟨fun z => absurd z x2, fun _ => R_may1 g10 ⟨fun _ => ?_, fun z => absurd (by decide) z⟩⟩⟩⟩
    refine R_begins7 (d := 997) (n := nt) (Y := Y) hnt hj (fun k hk => ⟨(t3 k hk).1, by rw [g1 81 k (by omega), gu1 k]; exact (t3 k hk).2.1⟩) (fun u2 f2 tt2 ff2 h792 h797 => ?_)
    refine q1 u2 (f2.1.trans g12) (fun i k q => ?_) ?_ h792 tt2 ff2 h797
    · have b2 : aBg i k = false := by simp [aBg]; omega
      rw [f2.2 i k b2, g1 i k (by omega)]
    · rw [f2.2 79 0 rfl]; exact g10
  by_cases hnp16 : np < 16
  · -- the class begins to read
    have lowW : ∀ {u2 w1 : q_Sm}, fr aOp w u2 → tC j Y 0 u2 → fC none u2 → w1 = q_wI u2 52 3 0 → tC j Y 0 w1 ∧ fC none w1 ∧ cg w.2.2.1 T (fun _ => 0) (fun _ => 0) (fun _ => 0) 0 w1 := by
      intro u2 w1 f2 tt2 ff2 e1
      have g : ∀ i k, i ≠ 52 → w1.1 i k = u2.1 i k := fun i k q => by rw [e1, rd_i q]
      refine ⟨tt2.g (fun i k q => g i k (by omega)), ff2.g (fun i k q => g i k (by omega)), ⟨?_, ?_⟩, by rw [e1, rd_s]; rfl, fun i hi => absurd hi (by omega)⟩
      · rw [g _ _ (by omega), f2.2 _ _ (aOp_n (by omega))]; exact hcc.1
      · rw [g _ _ (by omega), f2.2 _ _ (aOp_n (by omega))]; exact hcc.2
    have lowR : ∀ {u26 w27 : q_Sm}, (∀ i k, ¬ (i = 79 ∧ k ≤ 8) → u26.1 i k = w.1 i k ∨ i ≠ 79) → tR j Y 0 u26 → fR none u26 → u26.1 79 7 = nI 0 → w27 = q_wI u26 79 44 0 → tR j Y 0 w27 ∧ fR none w27 ∧ w27.1 79 7 = nI 0 ∧ rg T (fun _ => 0) (fun _ => 0) (fun _ => 0) 0 w27 := by
      intro u26 w27 g6 tt ff h7 e1
      have g : ∀ i k, ¬ (i = 79 ∧ k = 44) → w27.1 i k = u26.1 i k := fun i k q => by rw [e1, rd_ne q]
      have h29 : u26.1 79 29 = w.1 79 29 := (g6 79 29 (by omega)).resolve_right (fun q => q rfl)
      have h30 : u26.1 79 30 = w.1 79 30 := (g6 79 30 (by omega)).resolve_right (fun q => q rfl)
      refine ⟨tt.g (fun i k q => g i k (by omega)), ff.mv (g _ _ (by omega)) (g _ _ (by omega)), (g _ _ (by omega)).trans h7, ⟨?_, ?_⟩, by rw [e1, rd_s]; rfl, fun i hi => absurd hi (by omega)⟩
      · rw [g _ _ (by omega), h29]; exact hrc.1
      · rw [g _ _ (by omega), h30]; exact hrc.2
    rcases top_of (Y := Y) ho ht hj150 (j + 1) 0 0 (fun _ => 0) (fun _ => 0) (fun _ => 0) 0 (by omega) (by omega) (by omega) (by omega) with ⟨y, uc, ur⟩ | ⟨a', n', kd, fs, sc, gg1, uc, ur⟩
    · -- a fault
      show s_EvI 998 1 mX11_work w [.ref 1, .int (nI j)] _ _
      apply eX11_work
      unfold vX11_work_0
      refine K_openText (d := 987) (L := 150) (n := nt) (Y := Y) (by omega) hj150 hnt hj t1 (fun k hk => ⟨(t3 k hk).1, (t3 k hk).2.2⟩) (fun u2 f2 tt2 ff2 h21 => ?_)
      apply eX8_size
      unfold vX8_size_0
      refine ⟨q_id_of rfl, ?_⟩
      have c58 : u2.1 58 1 = nI np := (f2.2 58 1 (aOp_n (by omega))).trans p58
      rw [s_Ii, c58, f2.1]
      refine ⟨fun _ => ?_, fun z => absurd (show nI np < nI 16 from (nI_ltI (by omega) (by omega)).mpr hnp16) z⟩
      apply eX9_read
      unfold vX9_read_0
      intro w1 e1
      obtain ⟨tw1, fw1, cw1⟩ := lowW f2 tt2 ff2 e1
      have f1 : fr aWk u2 w1 := by rw [e1]; exact fr.wr rfl
      refine uc 996 _ (by decide) w1 _ tw1 fw1 cw1 (fun u6 f6 b6 => ?_)
      have f26 := f1.trans f6
      obtain ⟨k, p⟩ := y
      have ff4' : u6.1 2 5 = nI k ∧ u6.1 2 6 = nI p ∧ 0 < k ∧ k < 4 ∧ p ≤ 600 := b6.1
      have h62 : u6.2 = w.2 := f26.1.trans f2.1
      have h621 : u6.1 2 1 = nI 0 := by rw [f26.2 2 1 rfl]; exact h21
      have g6w : ∀ i k, i ≠ 2 → ¬ (52 ≤ i ∧ i ≤ 55) → u6.1 i k = w.1 i k := fun i k y1 y2 => by rw [f26.2 i k (aWk_n y1 y2), f2.2 i k (aOp_n y1)]
      refine K_failed (d := 996) b6.1 (fun _ => ⟨fun z => absurd z (by decide), fun _ => ?_⟩) (fun z => by simp at z)
      apply eX10_faultKind
      unfold vX10_faultKind_0
      rw [s_Ii, ff4'.1, s_Ii]
      refine ref (q_wJ u6 116 0 _) _ (fun k => g6w 79 k (by omega) (by omega)) (fun k => g6w 81 k (by omega) (by omega)) (fun u26 e26 g26 h260 h262 t26 ff26 h267 => ⟨fun _ => ?_, fun z => absurd ?_ z⟩)
      · intro w27 e27
        obtain ⟨t27, f27, h277, c27⟩ := lowR (fun i k q => by
          by_cases q2 : i = 79
          · exact Or.inl ((g26 i k q).trans (g6w i k (by omega) (by omega)))
          · exact Or.inr q2) t26 ff26 h267 e27
        have fr27 : fr aRk u26 w27 := by rw [e27]; exact fr.wr rfl
        refine ur 998 _ (by decide) w27 _ t27 f27 h277 c27 (fun u7 f7 ff7 => ?_)
        unfold wkE
        refine R_result1 (d := 996) ff7 (fun z => by simp at z) (fun k' p' e z ez fz => ?_)
        simp at e
        obtain ⟨rfl, rfl⟩ := e
        rw [fR_5 fz]
        refine ⟨fun z => by simp at z, fun _ => ?_⟩
        rw [s_Ii]
        have f8 := fr27.trans f7
        have gz : ∀ i k, ¬ (i = 79 ∧ (k ≤ 8 ∨ k = 44)) → i ≠ 102 → z.1 i k = u6.1 i k := fun i k y1 y2 => by
          rw [ez, rd_ne (by omega), f8.2 i k (aRk_n (by omega) y2), g26 i k (by omega)]
          rfl
        have zw : ∀ i k, ¬ (i = 79 ∧ (k ≤ 8 ∨ k = 44)) → i ≠ 102 → i ≠ 2 → ¬ (52 ≤ i ∧ i ≤ 55) → z.1 i k = w.1 i k := fun i k y1 y2 y3 y4 => (gz i k y1 y2).trans (g6w i k y3 y4)
        refine ⟨?_, ?_, ?_⟩
        · rw [ez, rd_j (by decide), f8.2 79 0 rfl]; exact h260
        · rw [ez]
          show u7.2.1 116 0 = _
          rw [f8.1, e26]
          simp [q_wJ, q_up]
        · refine Inv_wk (S' := S) hC hImg hCnt (hPst.eq (fun i k q => zw i k (by omega) (by omega) (by omega) (by omega))) ?_ (fun i k q => zw i k (by unfold kp at q; omega) (by unfold kp at q; omega) (by unfold kp at q; omega) (by unfold kp at q; omega)) (hSc.eq (fun k => zw _ _ (by omega) (by omega) (by omega) (by omega))) (hSr.eq (fun k => zw _ _ (by omega) (by omega) (by omega) (by omega))) hok ?_ ?_ ?_ ?_ ?_
          · rw [ez]
            show u7.2.2 = _
            rw [f8.1, e26]
            show u6.2.2 = _
            rw [h62]
          · rw [zw 1 12 (by omega) (by omega) (by omega) (by omega), zw 79 46 (by omega) (by omega) (by omega) (by omega)]; exact hCnt.2.2.1
          · rw [gz 2 6 (by omega) (by omega), ez, rd_s]; exact ff4'.2.1
          · rw [gz 2 1 (by omega) (by omega)]; exact h621
          · rw [ez, rd_j (by decide), f8.2 79 2 rfl]; exact h262
          · rw [ez]
            show u7.2.1 75 0 = _
            rw [f8.1, e26]
            exact (z75 _ _).trans (by rw [h62])
      · have e45 : u26.1 79 45 = nI np := by
          rw [g26 79 45 (by omega)]
          exact (g6w 79 45 (by omega) (by omega)).trans p45
        rw [e45]
        show ¬ nI np = nI 16
        rw [nI_eq (by omega) (by omega)]
        omega
    · -- a program: laid up, run
      obtain ⟨⟨q1, q2⟩, ⟨q3, q4⟩, q5, q6⟩ := gg1
      have hpg : pgO T kd fs sc n' := ⟨by omega, fun i hi => q6 i (by omega) hi⟩
      obtain ⟨b', y', z', S', hb1, hb2, hS', kc, rc⟩ := run_out (C := C) (nn := n) ht hpg 200 S 0 0 0 0 n' hok (by omega) (by omega) (by omega) (Nat.le_refl _)
      show s_EvI 998 1 mX11_work w [.ref 1, .int (nI j)] _ _
      apply eX11_work
      unfold vX11_work_0
      refine K_openText (d := 987) (L := 150) (n := nt) (Y := Y) (by omega) hj150 hnt hj t1 (fun k hk => ⟨(t3 k hk).1, (t3 k hk).2.2⟩) (fun u2 f2 tt2 ff2 h21 => ?_)
      apply eX8_size
      unfold vX8_size_0
      refine ⟨q_id_of rfl, ?_⟩
      have c58 : u2.1 58 1 = nI np := (f2.2 58 1 (aOp_n (by omega))).trans p58
      rw [s_Ii, c58, f2.1]
      refine ⟨fun _ => ?_, fun z => absurd (show nI np < nI 16 from (nI_ltI (by omega) (by omega)).mpr hnp16) z⟩
      apply eX9_read
      unfold vX9_read_0
      intro w1 e1
      obtain ⟨tw1, fw1, cw1⟩ := lowW f2 tt2 ff2 e1
      have f1 : fr aWk u2 w1 := by rw [e1]; exact fr.wr rfl
      refine uc 996 _ (by decide) w1 _ tw1 fw1 cw1 (fun u6 f6 ff6 c6 => ?_)
      have f26 := f1.trans f6
      have h62 : u6.2 = w.2 := f26.1.trans f2.1
      have h621 : u6.1 2 1 = nI 0 := by rw [f26.2 2 1 rfl]; exact h21
      have g6w : ∀ i k, i ≠ 2 → ¬ (52 ≤ i ∧ i ≤ 55) → u6.1 i k = w.1 i k := fun i k y1 y2 => by rw [f26.2 i k (aWk_n y1 y2), f2.2 i k (aOp_n y1)]
      refine K_failed (d := 996) ff6 (fun z => absurd rfl z) (fun _ => ⟨fun _ => ?_, fun z => absurd rfl z⟩)
      refine K_push (d := 996) (o := 58) (n := np) (Or.inl rfl) ((g6w 58 1 (by omega) (by omega)).trans p58) hnp (fun u10 f10 c10 d10 r10 => ?_)
      have h102 : u10.2 = w.2 := f10.1.trans h62
      have d10 : ∀ k, k < 59 → u10.1 59 (np * 59 + k) = u6.1 57 k := d10
      have r10 : ∀ k, k < np * 59 → u10.1 59 k = u6.1 59 k := r10
      have g10 : ∀ i k, i ≠ 59 → ¬ (i = 58 ∧ k = 1) → u10.1 i k = u6.1 i k := fun i k y1 y2 => f10.2 i k (aP_n y1 y2)
      rw [h102]
      apply eX9_run
      unfold vX9_run_0
      intro w11 e11 w12 e12 w13 e13
      have g13 : ∀ i k, ¬ (i = 52 ∧ 4 ≤ k ∧ k ≤ 6) → w13.1 i k = u10.1 i k := fun i k q => by rw [e13, rd_ne (by omega), e12, rd_ne (by omega), e11, rd_ne (by omega)]
      have h132 : w13.2 = w.2 := by rw [e13, e12, e11]; exact h102
      have g13w : ∀ i k, i ≠ 2 → ¬ (52 ≤ i ∧ i ≤ 55) → i ≠ 59 → i ≠ 58 → w13.1 i k = w.1 i k := fun i k y1 y2 y3 y4 => by
        rw [g13 i k (by omega), g10 i k y3 (by omega), g6w i k y1 y2]
      have h133 : w13.1 52 3 = nI n' := by rw [g13 52 3 (by omega), g10 52 3 (by omega) (by omega)]; exact c6.2.1
      have hrn : rnC w.2.2.1 w.2.2.2.2.1 T β C n kd fs sc n' S 0 0 0 w13 := by
        refine ⟨KE_kp hKE (fun i k q => g13w i k (by unfold kp at q; omega) (by unfold kp at q; omega) (by unfold kp at q; omega) (by unfold kp at q; omega)), hSc.eq (fun k => g13w _ _ (by omega) (by omega) (by omega) (by omega)), c6.2.2.eq (fun i k q => (g13 i k (by omega)).trans (g10 i k (by omega) (by omega))), ?_, ?_, ?_⟩
        · rw [e13, rd_j (by decide), e12, rd_j (by decide), e11, rd_s]; rfl
        · rw [e13, rd_j (by decide), e12, rd_s]; rfl
        · rw [e13, rd_s]; rfl
      rw [h133]
      apply eX9_runSteps
      unfold vX9_runSteps_0
      refine kc 996 (by decide) w.2.2.1 w.2.2.2.2.1 β w13 _ _ hrn (fun u12 f12 h12 => ?_)
      rw [s_Vn]
      intro w14 e14
      have g14 : ∀ i k, ¬ (i = 1 ∧ k = 12) → w14.1 i k = u12.1 i k := fun i k q => by rw [e14, rd_ne q]
      have h142 : w14.2 = w.2 := by rw [e14]; exact f12.1.trans h132
      have h1412 : w14.1 1 12 = nI z' := by rw [e14, rd_s]; exact h12.2.2.2.2.2
      have h145 : w14.1 52 5 = nI y' := (g14 _ _ (by omega)).trans h12.2.2.2.2.1
      rw [s_Ii, h145]
      have g14w : ∀ i k, i ≠ 2 → ¬ (52 ≤ i ∧ i ≤ 55) → i ≠ 59 → i ≠ 58 → i ≠ 57 → ¬ (38 ≤ i ∧ i ≤ 43) → ¬ (i = 1 ∧ k = 12) → w14.1 i k = w.1 i k := fun i k y1 y2 y3 y4 y5 y6 y7 => by
        rw [g14 i k y7, f12.2 i k (aRu_n y5 y6 (by omega)), g13w i k y1 y2 y3 y4]
      have g14k : ∀ i k, kp i k → w14.1 i k = w.1 i k := fun i k q => by
        rw [g14 i k (by unfold kp at q; omega), f12.2 i k (kp_Ru q), g13w i k (by unfold kp at q; omega) (by unfold kp at q; omega) (by unfold kp at q; omega) (by unfold kp at q; omega)]
      have c14 : ∀ i k, i = 2 ∨ i = 58 ∨ i = 59 → w14.1 i k = u10.1 i k := fun i k q => by
        rw [g14 i k (by omega), f12.2 i k (aRu_n (by omega) (by omega) (by omega)), g13 i k (by omega)]
      refine ref (q_wJ w14 116 0 _) _ (fun k => g14w 79 k (by omega) (by omega) (by omega) (by omega) (by omega) (by omega) (by omega)) (fun k => g14w 81 k (by omega) (by omega) (by omega) (by omega) (by omega) (by omega) (by omega)) (fun u26 e26 g26 h260 h262 t26 ff26 h267 => ⟨fun _ => ?_, fun z => absurd ?_ z⟩)
      · intro w27 e27
        obtain ⟨t27, f27, h277, c27⟩ := lowR (fun i k q => by
          by_cases q2 : i = 79
          · exact Or.inl ((g26 i k q).trans (g14w i k (by omega) (by omega) (by omega) (by omega) (by omega) (by omega) (by omega)))
          · exact Or.inr q2) t26 ff26 h267 e27
        have fr27 : fr aRk u26 w27 := by rw [e27]; exact fr.wr rfl
        refine ur 998 _ (by decide) w27 _ t27 f27 h277 c27 (fun u7 f7 ff7 c7 => ?_)
        have f8 := fr27.trans f7
        -- from the memory that the class left, w14, to u7
        have g7 : ∀ i k, ¬ (i = 79 ∧ (k ≤ 8 ∨ k = 44)) → i ≠ 102 → u7.1 i k = w14.1 i k := fun i k y1 y2 => by
          rw [f8.2 i k (aRk_n (by omega) y2), g26 i k (by omega)]
          rfl
        unfold wkE
        refine R_result1 (d := 996) ff7 (fun _ z ez fz => ?_) (fun k p e => by simp at e)
        rw [fR_5 fz]
        refine ⟨fun _ => ?_, fun q => absurd rfl q⟩
        have gz : ∀ i k, ¬ (i = 79 ∧ k = 8) → z.1 i k = u7.1 i k := fun i k q => by rw [ez, rd_ne q]
        have z44 : z.1 79 44 = nI (3 * n') := (gz _ _ (by omega)).trans c7.2.1
        have z8 : z.1 79 8 = oI none := by rw [ez, rd_s]
        have z2 : z.2 = u7.2 := by rw [ez]; rfl
        rw [z44]
        refine r_copies (d := 997) (q_id_of rfl) (q_id_of rfl) (by decide) (by omega) (show 3 * n' ≤ 150 by omega) (show 3 * n' ≤ 150 by omega) (fun u35 k35 _ f35 => ?_)
        have g35 : ∀ i k, i ≠ 103 → u35.1 i k = z.1 i k := fun i k q => f35.2 i k (by simp [q])
        have p35 : u35.1 79 45 = nI np := by
          rw [g35 79 45 (by omega), gz 79 45 (by omega), g7 79 45 (by omega) (by omega), g14w 79 45 (by omega) (by omega) (by omega) (by omega) (by omega) (by omega) (by omega)]
          exact p45
        refine R_past (d := 997) hnp16 p35 (fun u36 f36 k36 l36 w37 e37 => ?_)
        have g36 : ∀ i k, i ≠ 106 → u36.1 i k = u35.1 i k := fun i k q => f36.2 i k (by simp [q])
        have g37 : ∀ i k, ¬ (i = 79 ∧ k = 45) → w37.1 i k = u36.1 i k := fun i k q => by rw [e37, rd_ne q]
        have h3745 : w37.1 79 45 = nI (np + 1) := by rw [e37, rd_s]
        have r37 : rR 104 S w37 := hSr.eq (fun k => by
          rw [g37 104 k (by omega), g36 104 k (by omega), g35 104 k (by omega), gz 104 k (by omega), g7 104 k (by omega) (by omega), g14w 104 k (by omega) (by omega) (by omega) (by omega) (by omega) (by omega) (by omega)])
        refine r_take (d := 996) r37 (fun u46 f46 r46 => ?_)
        intro w47 e47 w48 e48 w49 e49
        have g49 : ∀ i k, ¬ (i = 79 ∧ 47 ≤ k ∧ k ≤ 49) → w49.1 i k = u46.1 i k := fun i k q => by rw [e49, rd_ne (by omega), e48, rd_ne (by omega), e47, rd_ne (by omega)]
        -- from w14 to w49
        have g50 : ∀ i k, ¬ (i = 79 ∧ (k ≤ 8 ∨ (44 ≤ k ∧ k ≤ 49))) → ¬ (100 ≤ i ∧ i ≤ 103) → i ≠ 105 → i ≠ 106 → w49.1 i k = w14.1 i k := fun i k y1 y2 y3 y4 => by
          rw [g49 i k (by omega), f46.2 i k (aS_n (by omega)), g37 i k (by omega), g36 i k y4, g35 i k (by omega), gz i k (by omega), g7 i k (by omega) (by omega)]
        have g51 : ∀ i k, kp i k → w49.1 i k = w.1 i k := fun i k q => by
          rw [g50 i k (by unfold kp at q; omega) (by unfold kp at q; omega) (by unfold kp at q; omega) (by unfold kp at q; omega)]
          exact g14k i k q
        have h4944 : w49.1 79 44 = nI (3 * n') := by
          rw [g49 79 44 (by omega), f46.2 79 44 (aS_n (by omega)), g37 79 44 (by omega), g36 79 44 (by omega), g35 79 44 (by omega)]
          exact z44
        have hrr : rnR T C n kd fs sc n' S 0 0 0 w49 := by
          refine ⟨hRE.eq (fun i k q => g51 i k (by unfold kp; omega)), r46.eq (fun k => g49 _ _ (by omega)), fun i hi => ?_, ?_, ?_, ?_⟩
          · obtain ⟨m1, m2, m3⟩ := c7.2.2 i hi
            have e : ∀ k, k < 3 * n' → w49.1 103 k = u7.1 102 k := fun k hk => by
              rw [g49 103 k (by omega), f46.2 103 k (aS_n (by omega)), g37 103 k (by omega), g36 103 k (by omega), k35 k hk, gz 102 k (by omega)]
            rw [e _ (by omega), e _ (by omega), e _ (by omega)]
            exact ⟨m1, m2, m3⟩
          · rw [e49, rd_j (by decide), e48, rd_j (by decide), e47, rd_s]; rfl
          · rw [e49, rd_j (by decide), e48, rd_s]; rfl
          · rw [e49, rd_s]; rfl
        rw [h4944]
        apply eX12_goesSteps
        unfold vX12_goesSteps_0
        refine rc 998 (by decide) w49 _ _ hrr (fun u51 f51 h51 => ?_)
        refine r_copies (d := 997) (m := 63) (q_id_of rfl) (q_id_of rfl) (by decide) (by decide) (by decide) (by decide) (fun u53 k53 _ f53 => ?_)
        have g53 : ∀ i k, i ≠ 104 → u53.1 i k = u51.1 i k := fun i k q => f53.2 i k (by simp [q])
        intro w54 e54
        have g54 : ∀ i k, ¬ (i = 79 ∧ k = 46) → w54.1 i k = u53.1 i k := fun i k q => by rw [e54, rd_ne q]
        have h5446 : w54.1 79 46 = nI z' := by rw [e54, rd_s, g53 79 49 (by omega)]; exact h51.2.2.2.2.2
        have h5448 : w54.1 79 48 = nI y' := by rw [g54 79 48 (by omega), g53 79 48 (by omega)]; exact h51.2.2.2.2.1
        rw [h5448, s_Ii]
        -- from w49 to w54, from w14 to w54
        have g55 : ∀ i k, ¬ (i = 79 ∧ 46 ≤ k ∧ k ≤ 49) → ¬ (100 ≤ i ∧ i ≤ 105) → w54.1 i k = w49.1 i k := fun i k y1 y2 => by
          rw [g54 i k (by omega), g53 i k (by omega), f51.2 i k (aGo_n (by omega) (by omega))]
        have g56 : ∀ i k, ¬ (i = 79 ∧ (k ≤ 8 ∨ (44 ≤ k ∧ k ≤ 49))) → ¬ (100 ≤ i ∧ i ≤ 106) → w54.1 i k = w14.1 i k := fun i k y1 y2 => by
          rw [g55 i k (by omega) (by omega), g50 i k y1 (by omega) (by omega) (by omega)]
        have e2 : w54.2 = (q_wJ w14 116 0 (Int32.toInt64 (nI y'))).2 := by
          rw [e54]
          show u53.2 = _
          rw [f53.1, f51.1, e49, e48, e47]
          show u46.2 = _
          rw [f46.1, e37]
          show u36.2 = _
          rw [f36.1, f35.1, z2, f8.1, e26]
        refine ⟨?_, ?_, ?_⟩
        · rw [g55 79 0 (by omega) (by omega), g49 79 0 (by omega), f46.2 79 0 (aS_n (by omega)), g37 79 0 (by omega), g36 79 0 (by omega), g35 79 0 (by omega), gz 79 0 (by omega), f8.2 79 0 rfl]
          exact h260
        · rw [e2]
          simp [q_wJ, q_up]
        · have ziw : w54.2.2 = w.2.2 := by
            rw [e2]
            show w14.2.2 = _
            rw [h142]
          have low : ∀ k, k ≤ 8 → k ≠ 8 → w54.1 79 k = u7.1 79 k := fun k y1 y2 => by
            rw [g55 79 k (by omega) (by omega), g49 79 k (by omega), f46.2 79 k (aS_n (by omega)), g37 79 k (by omega), g36 79 k (by omega), g35 79 k (by omega), gz 79 k (by omega)]
          have h548 : w54.1 79 8 = oI none := by
            rw [g55 79 8 (by omega) (by omega), g49 79 8 (by omega), f46.2 79 8 (aS_n (by omega)), g37 79 8 (by omega), g36 79 8 (by omega), g35 79 8 (by omega)]
            exact z8
          have h5445 : w54.1 79 45 = nI (np + 1) := by
            rw [g55 79 45 (by omega) (by omega), g49 79 45 (by omega), f46.2 79 45 (aS_n (by omega))]
            exact h3745
          have e106 : ∀ k, w54.1 106 k = u36.1 106 k := fun k => by
            rw [g55 106 k (by omega) (by omega), g49 106 k (by omega), f46.2 106 k (aS_n (by omega)), g37 106 k (by omega)]
          have w35 : ∀ i k, i = 104 ∨ i = 106 → u35.1 i k = w.1 i k := fun i k q => by
            rw [g35 i k (by omega), gz i k (by omega), g7 i k (by omega) (by omega), g14w i k (by omega) (by omega) (by omega) (by omega) (by omega) (by omega) (by omega)]
          obtain ⟨P', hPa, hPb⟩ : ∃ P' : Nat → Nat → Nat, P' np = S ∧ ∀ i, i ≠ np → P' i = P i := ⟨fun i => if i = np then S else P i, if_pos rfl, fun i q => if_neg q⟩
          refine Inv_wk (S' := S') hC hImg hCnt ⟨np + 1, P', by omega, ?_, h5445, fun i hi => ?_⟩ ziw (fun i k q => ?_) ?_ ?_ hS' ?_ ?_ ?_ ?_ ?_
          · rw [g56 58 1 (by omega) (by omega), c14 58 1 (by omega)]
            exact c10
          · by_cases q : i = np
            · subst q
              rw [hPa]
              refine ⟨fun k hk => ?_, fun k hk => ?_, ?_⟩
              · rw [g56 59 _ (by omega) (by omega), c14 59 _ (by omega), d10 k hk, g6w 57 k (by omega) (by omega)]
                exact hSc k hk
              · rw [e106, k36 k hk, w35 104 k (by omega)]
                exact hSr k hk
              · exact hok
            · have hin : i < np := by omega
              obtain ⟨m1, m2, m3⟩ := pP i hin
              rw [hPb i q]
              refine ⟨fun k hk => ?_, fun k hk => ?_, ?_⟩
              · rw [g56 59 _ (by omega) (by omega), c14 59 _ (by omega), r10 _ (by omega), g6w 59 _ (by omega) (by omega)]
                exact m1 k hk
              · rw [e106, l36 _ (by omega), w35 106 _ (by omega)]
                exact m2 k hk
              · exact m3
          · rw [g55 i k (by unfold kp at q; omega) (by unfold kp at q; omega)]
            exact g51 i k q
          · exact h12.2.1.eq (fun k => by rw [g56 57 k (by omega) (by omega), g14 57 k (by omega)])
          · intro k hk
            rw [g54 104 k (by omega), k53 k hk]
            exact h51.2.1 k hk
          · rw [g56 1 12 (by omega) (by omega), h1412, h5446]
          · rw [g56 2 6 (by omega) (by omega), c14 2 6 (by omega), g10 2 6 (by omega) (by omega), h548]
            exact ff6.2
          · rw [g56 2 1 (by omega) (by omega), c14 2 1 (by omega), g10 2 1 (by omega) (by omega)]
            exact h621
          · rw [low 2 (by omega) (by omega), f8.2 79 2 rfl]
            exact h262
          · rw [e2]
            exact (z75 _ _).trans (by rw [h142])
      · have e45 : u26.1 79 45 = nI np := by
          rw [g26 79 45 (by omega)]
          exact (g14w 79 45 (by omega) (by omega) (by omega) (by omega) (by omega) (by omega) (by omega)).trans p45
        rw [e45]
        show ¬ nI np = nI 16
        rw [nI_eq (by omega) (by omega)]
        omega
  · -- too many works
    have hnp' : np = 16 := by omega
    subst hnp'
    show s_EvI 998 1 mX11_work w [.ref 1, .int (nI j)] _ _
    apply eX11_work
    unfold vX11_work_0
    refine K_openText (d := 987) (L := 150) (n := nt) (Y := Y) (by omega) hj150 hnt hj t1 (fun k hk => ⟨(t3 k hk).1, (t3 k hk).2.2⟩) (fun u2 f2 tt2 ff2 h21 => ?_)
    apply eX8_size
    unfold vX8_size_0
    refine ⟨q_id_of rfl, ?_⟩
    have c58 : u2.1 58 1 = nI 16 := (f2.2 58 1 (aOp_n (by omega))).trans p58
    rw [s_Ii, c58]
    refine ⟨fun z => absurd z (by decide), fun _ => ?_⟩
    rw [s_Ii]
    refine ref (q_wJ u2 116 0 _) _ (fun k => f2.2 79 k (aOp_n (by omega))) (fun k => f2.2 81 k (aOp_n (by omega))) (fun u26 e26 g26 h260 h262 t26 ff26 h267 => ⟨fun z => absurd ?_ z, fun _ => ?_⟩)
    · rw [g26 79 45 (by omega)]
      exact (f2.2 79 45 (aOp_n (by omega))).trans p45
    · refine R_result1 (d := 996) ff26 (fun _ z ez fz => ?_) (fun k p e => by simp at e)
      rw [s_Ii]
      have zw : ∀ i k, ¬ (i = 79 ∧ k ≤ 8) → i ≠ 2 → z.1 i k = w.1 i k := fun i k y1 y2 => by
        rw [ez, rd_ne (by omega), g26 i k y1]
        exact f2.2 i k (aOp_n y2)
      have z2 : ∀ k, z.1 2 k = u2.1 2 k := fun k => by
        rw [ez, rd_ne (by omega), g26 2 k (by omega)]
        rfl
      refine ⟨?_, ?_, ?_⟩
      · rw [ez, rd_j (by decide)]; exact h260
      · rw [ez]
        show u26.2.1 116 0 = _
        rw [e26]
        simp [q_wJ, q_up]
      · refine Inv_wk (S' := S) hC hImg hCnt (hPst.eq (fun i k q => zw i k (by omega) (by omega))) ?_ (fun i k q => zw i k (by unfold kp at q; omega) (by unfold kp at q; omega)) (hSc.eq (fun k => zw _ _ (by omega) (by omega))) (hSr.eq (fun k => zw _ _ (by omega) (by omega))) hok ?_ ?_ ?_ ?_ ?_
        · rw [ez]
          show u26.2.2 = _
          rw [e26]
          show u2.2.2 = _
          rw [f2.1]
        · rw [zw 1 12 (by omega) (by omega), zw 79 46 (by omega) (by omega)]; exact hCnt.2.2.1
        · rw [z2 6, ez, rd_s]; exact ff2.2
        · rw [z2 1]; exact h21
        · rw [ez, rd_j (by decide)]; exact h262
        · rw [ez]
          show u26.2.1 75 0 = _
          rw [e26]
          exact (z75 _ _).trans (by rw [f2.1])
