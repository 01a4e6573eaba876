/-! images -/
theorem R_keepS {d q r s : Nat} {w : q_Sm} {Q : Int32 → q_Sm → Prop} {X : s_Xo} (hr : q_id 116 14 r) (hr2 : r ≠ 115) (hs : s ≤ (q_sh r).2) (hq : q + s ≤ 3216)
    (h : ∀ u, fr (fun i j => i == 115 && decide (q ≤ j) && decide (j < q + s)) w u → (∀ k, k < s → u.1 115 (q + k) = w.1 r k) → Q (nI (q + s)) u) : s_EvI (d + 1) 0 mX12_keepsRow w [.ref 79, .int (nI q), .ref r, .int (nI s), .int 1] Q X := by
  have loop : ∀ a, a ≤ s → ∀ u, fr (fun i j => i == 115 && decide (q ≤ j) && decide (j < q + s)) w u → (∀ k, k < a → u.1 115 (q + k) = w.1 r k) → s_Ex (d + 1) 0 mX12_keepsRow 3 [some (.ref 79), some (.int (nI q)), some (.ref r), some (.int (nI s)), some (.int 1), some (.int (nI a))] [] u (s_I Q) X := by
    refine n_down ?_ ?_
    · intro u hu hc
      apply xX12_keepsRow_3
      unfold vX12_keepsRow_3
      rw [nI_add]
      exact ⟨fun _ => ⟨_, rfl, h u hu hc⟩, fun z => absurd (nI_le (Nat.le_refl _) (by omega)) z⟩
    · intro a ha ih u hu hc
      apply xX12_keepsRow_3
      unfold vX12_keepsRow_3
      rw [nI_add q a, nI_clamp (n := a) (by omega), nI_clamp (n := q + a) (by omega), nI_1 a]
      refine ⟨fun z => absurd z (nI_ge ha (by omega)), fun _ => ⟨fun z => absurd z (by decide), fun _ => ⟨hr, (vp_nI (by omega)).mpr (by omega), (vp_nI (by omega)).mpr (by omega), ?_⟩⟩⟩
      rintro _ rfl
      refine ih _ (hu.put (by simp; omega)) (fun k hk => ?_)
      rw [rd_e, if_pos rfl]
      split
      · rename_i e
        rw [show k = a by omega]
        exact hu.2 _ _ (by simp [hr2])
      · exact hc k (by omega)
  apply eX12_keepsRow
  unfold vX12_keepsRow_0
  exact loop 0 (by omega) w (fr.refl _ _) (fun k hk => absurd hk (Nat.not_lt_zero _))
theorem R_keepL {d q r s : Nat} {w : q_Sm} {Q : Int32 → q_Sm → Prop} {X : s_Xo} (hr : q_id 116 14 r) (hr2 : r ≠ 115) (hs : s ≤ (q_sh r).2) (hq : q + s ≤ 3216)
    (h : ∀ u, fr (fun i _ => i == r) w u → (∀ k, k < s → u.1 r k = w.1 115 (q + k)) → Q (nI (q + s)) u) : s_EvI (d + 1) 0 mX12_keepsRow w [.ref 79, .int (nI q), .ref r, .int (nI s), .int 0] Q X := by
  have loop : ∀ a, a ≤ s → ∀ u, fr (fun i _ => i == r) w u → (∀ k, k < a → u.1 r k = w.1 115 (q + k)) → s_Ex (d + 1) 0 mX12_keepsRow 3 [some (.ref 79), some (.int (nI q)), some (.ref r), some (.int (nI s)), some (.int 0), some (.int (nI a))] [] u (s_I Q) X := by
    refine n_down ?_ ?_
    · intro u hu hc
      apply xX12_keepsRow_3
      unfold vX12_keepsRow_3
      rw [nI_add]
      exact ⟨fun _ => ⟨_, rfl, h u hu hc⟩, fun z => absurd (nI_le (Nat.le_refl _) (by omega)) z⟩
    · intro a ha ih u hu hc
      apply xX12_keepsRow_3
      unfold vX12_keepsRow_3
      rw [nI_add q a, nI_clamp (n := a) (by omega), nI_clamp (n := q + a) (by omega), nI_1 a]
      refine ⟨fun z => absurd z (nI_ge ha (by omega)), fun _ => ⟨fun _ => ⟨(vp_nI (by omega)).mpr (by omega), hr, (vp_nI (by omega)).mpr (by omega), ?_⟩, fun z => absurd rfl z⟩⟩
      rintro _ rfl
      refine ih _ (hu.put (by simp)) (fun k hk => ?_)
      rw [rd_e, if_pos rfl]
      split
      · rename_i e
        rw [e]
        exact hu.2 _ _ (by simp; omega)
      · exact hc k (by omega)
  apply eX12_keepsRow
  unfold vX12_keepsRow_0
  exact loop 0 (by omega) w (fr.refl _ _) (fun k hk => absurd hk (Nat.not_lt_zero _))
theorem ag_image (w : q_Sm) (hI : Inv w) : ag_D Inv 999 mX11_image mX12_image w [] := by
  obtain ⟨T, β, C, n, S, B, m, hC, hPst, hImg, hTp, hCnt⟩ := id hI
  obtain ⟨np, P, hnp, p1, p2, p3⟩ := id hPst
  obtain ⟨ni, hni, i1, i2, i3⟩ := id hImg
  by_cases h0 : ni = 3
  · subst h0
    refine agD_ok (-1) hI (fun Q X hQ => ?_) (fun u hu Q X hQ => ?_)
    · apply eX11_image
      unfold vX11_image_0
      rw [i1]
      exact ⟨fun z => absurd z (by decide), fun _ => ⟨_, rfl, hQ w (fr.refl _ _)⟩⟩
    · apply eX12_image
      unfold vX12_image_0
      rintro _ rfl
      rw [rd_j (by omega), hu.2 _ _ rfl, i2]
      exact ⟨fun z => absurd rfl z, fun _ => ⟨_, rfl, hQ _ scr_t⟩⟩
  have ho : 61 + 2 * ni = 58 ∨ 61 + 2 * ni = 61 ∨ 61 + 2 * ni = 63 ∨ 61 + 2 * ni = 65 := by omega
  obtain ⟨q1, -, -⟩ := ie_0 ho
  show s_EvI 999 0 mX11_image w [.ref 1] _ X0
  apply eX11_image
  unfold vX11_image_0
  have eid : 60 + 1 + 2 * ni = 61 + 2 * ni := by omega
  rw [i1, nI_clamp (by omega), eid]
  refine ⟨fun _ => ⟨(vp_nI (by omega)).mpr (by omega), q1, ?_⟩, fun z => absurd (show nI ni < nI 3 from nI_lt (by omega) (by omega)) z⟩
  refine K_pcopy (n := np) ho (Or.inl rfl) (by omega) p1 (by omega) (fun u hu h1 h2 => ?_)
  have u11 : u.1 1 11 = nI ni := (hu.2 _ _ (by simp [aP] <;> omega)).trans i1
  rw [u11, nI_clamp (by omega), eid]
  refine ⟨(vp_nI (by omega)).mpr (by omega), q1, K_push (n := np) ho h1 hnp (fun u2 hu2 k1 k2 k3 => ?_)⟩
  have u211 : u2.1 1 11 = nI ni := (hu2.2 _ _ (by simp [aP] <;> omega)).trans u11
  rintro _ rfl
  rw [rd_s, u211, nI_1]
  refine ⟨_, rfl, ?_⟩
  generalize hw3 : q_wI u2 1 11 (nI (ni + 1)) = w3
  have g : ∀ i j, i ≠ 61 + 2 * ni → i ≠ 62 + 2 * ni → ¬ (i = 1 ∧ j = 11) → w3.1 i j = w.1 i j := by
    intro i j z1 z2 z3
    rw [← hw3, rd_ne z3, hu2.2 _ _ (by simp [aP] <;> omega), hu.2 _ _ (by simp [aP] <;> omega)]
  have g11 : w3.1 1 11 = nI (ni + 1) := by rw [← hw3, rd_s]
  have gid : w3.2.2 = w.2.2 := by rw [← hw3]; show u2.2.2 = w.2.2; rw [hu2.1, hu.1]
  have gk : w3.1 (61 + 2 * ni) 1 = nI (np + 1) := by rw [← hw3, rd_i (by omega), k1]
  have grow : ∀ k, k < 59 → w3.1 (62 + 2 * ni) (np * 59 + k) = w.1 57 k := by
    intro k hk
    rw [← hw3, rd_i (by omega), show 62 + 2 * ni = 61 + 2 * ni + 1 by omega, k2 k hk, hu.2 _ _ (by simp [aP] <;> omega)]
  have gold : ∀ k, k < np * 59 → w3.1 (62 + 2 * ni) k = w.1 59 k := by
    intro k hk
    rw [← hw3, rd_i (by omega), show 62 + 2 * ni = 61 + 2 * ni + 1 by omega, k3 k hk, h2 k hk]
  apply eX12_image
  unfold vX12_image_0
  rintro _ rfl
  have e66 : (q_wI w3 79 0 0).1 79 66 = nI ni := by rw [rd_j (by omega), g _ _ (by omega) (by omega) (by omega), i2]
  rw [e66]
  refine ⟨fun _ => ?_, fun z => absurd (fun q => by have := (nI_eq (b := 3) (by omega) (by omega)).mp q; omega) z⟩
  apply eX12_keepsAll
  unfold vX12_keepsAll_0
  have e1 : (1072 : Int32) * nI ni = nI (1072 * ni) := by rw [show (1072 : Int32) = nI 1072 from rfl, pk_mul]
  rw [e1]
  refine R_keepS (s := 63) (q_id_of rfl) (by omega) (by decide) (by omega) (fun u4 hu4 c4 => ?_)
  refine R_keepS (s := 1008) (q_id_of rfl) (by omega) (by decide) (by omega) (fun u5 hu5 c5 => ?_)
  refine ⟨fun z => absurd z (by decide), fun _ => ?_⟩
  rw [nI_clamp (by omega)]
  refine ⟨(vp_nI (by omega)).mpr (by omega), ?_⟩
  rintro _ rfl
  refine ⟨rfl, ?_⟩
  rintro _ rfl
  have f115 : ∀ i j, i ≠ 115 → ¬ (i = 79 ∧ j = 0) → u5.1 i j = w3.1 i j := by
    intro i j z1 z2
    rw [hu5.2 _ _ (by simp [z1]), hu4.2 _ _ (by simp [z1]), rd_ne z2]
  have e66b : (q_wI u5 115 (1072 * ni + 63 + 1008) (u5.1 79 45)).1 79 66 = nI ni := by rw [rd_i (by omega), f115 _ _ (by omega) (by omega), g _ _ (by omega) (by omega) (by omega), i2]
  rw [e66b, nI_1, rd_s]
  refine ⟨_, rfl, rfl, ?_⟩
  generalize hw6 : q_wI (q_wI u5 115 (1072 * ni + 63 + 1008) (u5.1 79 45)) 79 66 (nI (ni + 1)) = w6
  have gg : ∀ i j, i ≠ 61 + 2 * ni → i ≠ 62 + 2 * ni → ¬ (i = 1 ∧ j = 11) → i ≠ 115 → ¬ (i = 79 ∧ (j = 0 ∨ j = 66)) → w6.1 i j = w.1 i j := by
    intro i j z1 z2 z3 z4 z5
    rw [← hw6, rd_ne (by omega), rd_i z4, f115 i j z4 (by omega), g i j z1 z2 z3]
  have g115 : ∀ j, j < 1072 * ni → w6.1 115 j = w.1 115 j := by
    intro j hj
    rw [← hw6, rd_i (by omega), rd_j (by omega), hu5.2 _ _ (by simp; omega), hu4.2 _ _ (by simp; omega), rd_i (by omega), g _ _ (by omega) (by omega) (by omega)]
  have gnow : ∀ k, k < 63 → w6.1 115 (1072 * ni + k) = w.1 104 k := by
    intro k hk
    rw [← hw6, rd_i (by omega), rd_j (by omega), hu5.2 _ _ (by simp; omega), c4 k hk, rd_i (by omega), g _ _ (by omega) (by omega) (by omega)]
  have gpast : ∀ k, k < 1008 → w6.1 115 (1072 * ni + 63 + k) = w.1 106 k := by
    intro k hk
    rw [← hw6, rd_i (by omega), rd_j (by omega), c5 k hk, hu4.2 _ _ (by simp), rd_i (by omega), g _ _ (by omega) (by omega) (by omega)]
  have gwk : w6.1 115 (1072 * ni + 1071) = nI np := by
    rw [← hw6, rd_i (by omega), show 1072 * ni + 1071 = 1072 * ni + 63 + 1008 by omega, rd_s, f115 _ _ (by omega) (by omega), g _ _ (by omega) (by omega) (by omega), p2]
  have gpos : ∀ i j, i ≠ 115 → ¬ (i = 79 ∧ (j = 0 ∨ j = 66)) → w6.1 i j = w3.1 i j := by
    intro i j z4 z5
    rw [← hw6, rd_ne (by omega), rd_i z4, f115 i j z4 (by omega)]
  refine ⟨T, β, C, n, S, B, m, mkCo hC ?_ (fun i j q => gg i j (by omega) (by omega) (by omega) (by omega) (by omega)) (fun j hj => ?_) (fun j hj => ?_) hC.2.2.2.2.2.1, hPst.eq (fun i j q => gg i j (by omega) (by omega) (by omega) (by omega) (by omega)), ⟨ni + 1, by omega, ?_, ?_, fun i hi => ?_⟩, hTp.eq (fun i j q => gg i j (by omega) (by omega) (by omega) (by omega) (by omega)), ?_⟩
  · rw [← hw6]
    show u5.2.2 = w.2.2
    rw [hu5.1, hu4.1]
    exact gid
  · rw [gg _ _ (by omega) (by omega) (by omega) (by omega) (by omega)]; exact hC.2.2.2.1 j hj
  · rw [gg _ _ (by omega) (by omega) (by omega) (by omega) (by omega)]; exact hC.2.2.2.2.1 j hj
  · rw [gpos _ _ (by omega) (by omega), g11]
  · rw [← hw6, rd_s]
  · by_cases hlast : i = ni
    · subst hlast
      refine ⟨np, fun j => if j < np then P j else S, hnp, ?_, gwk, fun j hj => ⟨fun k hk => ?_, ?_⟩, fun k hk => ?_, fun j hj k hk => ?_⟩
      · rw [gpos _ _ (by omega) (by omega), gk]
      · rw [gpos _ _ (by omega) (by omega)]
        by_cases q : j < np
        · show _ = nI ((if j < np then P j else S) (pm k))
          rw [if_pos q, gold _ (by omega)]
          exact (p3 j q).1 k hk
        · show _ = nI ((if j < np then P j else S) (pm k))
          rw [if_neg q, show j = np by omega, grow k hk]
          exact hC.2.2.2.1 k hk
      · by_cases q : j < np
        · simp only [q, if_true]; exact (p3 j q).2.2
        · simp only [q, if_false]; exact hC.2.2.2.2.2.1
      · show _ = nI ((if np < np then P np else S) k)
        rw [if_neg (by omega), gnow k hk]
        exact hC.2.2.2.2.1 k hk
      · show _ = nI ((if j < np then P j else S) k)
        rw [if_pos hj, gpast _ (by omega)]
        exact (p3 j hj).2.1 k hk
    · have him := i3 i (by omega)
      obtain ⟨m1, R, b1, b2, b3, b4, b5, b6⟩ := him
      refine ⟨m1, R, b1, ?_, ?_, fun j hj => ⟨fun a ha => ?_, (b4 j hj).2⟩, fun a ha => ?_, fun j hj a ha => ?_⟩
      · rw [gg _ _ (by omega) (by omega) (by omega) (by omega) (by omega)]; exact b2
      · rw [g115 _ (by omega)]; exact b3
      · rw [gg _ _ (by omega) (by omega) (by omega) (by omega) (by omega)]; exact (b4 j hj).1 a ha
      · rw [g115 _ (by omega)]; exact b5 a ha
      · rw [g115 _ (by omega)]; exact b6 j hj a ha
  · obtain ⟨c1, c2, c3, c4⟩ := hCnt
    unfold cnt
    rw [gg 1 13 (by omega) (by omega) (by omega) (by omega) (by omega), gg 1 14 (by omega) (by omega) (by omega) (by omega) (by omega), gg 80 0 (by omega) (by omega) (by omega) (by omega) (by omega), gg 80 1 (by omega) (by omega) (by omega) (by omega) (by omega), gg 2 6 (by omega) (by omega) (by omega) (by omega) (by omega), gg 79 8 (by omega) (by omega) (by omega) (by omega) (by omega), gg 1 12 (by omega) (by omega) (by omega) (by omega) (by omega), gg 79 46 (by omega) (by omega) (by omega) (by omega) (by omega)]
    exact ⟨c1, c2, c3, c4.1, by rw [← hw6]; show u5.2.1 75 0 = 0; rw [hu5.1, hu4.1]; show w3.2.1 75 0 = 0; rw [← hw3]; show u2.2.1 75 0 = 0; rw [hu2.1, hu.1]; exact c4.2⟩
theorem ag_restore (w : q_Sm) (hI : Inv w) : ag_D Inv 999 mX11_restore mX12_restore w [] := by
  obtain ⟨T, β, C, n, S, B, m, hC, hPst, hImg, hTp, hCnt⟩ := id hI
  obtain ⟨ni, hni, i1, i2, i3⟩ := id hImg
  by_cases h0 : ni = 0
  · subst h0
    refine agD_ok (-1) hI (fun Q X hQ => ?_) (fun u hu Q X hQ => ?_)
    · apply eX11_restore
      unfold vX11_restore_0
      rw [i1]
      exact ⟨fun z => absurd z (by decide), fun _ => ⟨_, rfl, hQ w (fr.refl _ _)⟩⟩
    · apply eX12_restore
      unfold vX12_restore_0
      rintro _ rfl
      rw [rd_j (by omega), hu.2 _ _ rfl, i2]
      exact ⟨fun z => absurd rfl z, fun _ => ⟨_, rfl, hQ _ scr_t⟩⟩
  obtain ⟨k, rfl⟩ : ∃ k, ni = k + 1 := ⟨ni - 1, by omega⟩
  obtain ⟨m1, R, b1, b2, b3, b4, b5, b6⟩ := i3 k (by omega)
  have ho : 61 + 2 * k = 58 ∨ 61 + 2 * k = 61 ∨ 61 + 2 * k = 63 ∨ 61 + 2 * k = 65 := by omega
  have e0 : nI (k + 1) - 1 = nI k := by rw [L_1, pk_sub (by omega)]; rfl
  show s_EvI 999 0 mX11_restore w [.ref 1] _ X0
  apply eX11_restore
  unfold vX11_restore_0
  rw [i1, e0]
  refine ⟨fun _ => ?_, fun z => absurd (show nI 0 < nI (k + 1) from nI_lt (by omega) (by omega)) z⟩
  rintro _ rfl
  rw [rd_s, nI_clamp (by omega), show 60 + 1 + 2 * k = 61 + 2 * k by omega]
  refine ⟨(vp_nI (by omega)).mpr (by omega), K_pcopy (n := m1 + 1) (Or.inl rfl) ho (by omega) (by rw [rd_i (by omega)]; exact b2) (by omega) (fun u hu h1 h2 => ?_)⟩
  refine K_pop (n := m1) (Or.inl rfl) h1 b1 (fun u2 hu2 k1 k2 => ?_)
  rintro _ rfl
  have e11 : (q_wI u2 1 12 0).1 1 11 = nI k := by rw [rd_j (by omega), hu2.2 _ _ (by simp [aQ]), hu.2 _ _ (by simp [aP]), rd_s]
  rw [e11]
  refine ⟨_, rfl, ?_⟩
  generalize hw3 : q_wI u2 1 12 0 = w3
  have g : ∀ i j, i ≠ 57 → i ≠ 59 → ¬ (i = 58 ∧ j = 1) → ¬ (i = 1 ∧ (j = 11 ∨ j = 12)) → w3.1 i j = w.1 i j := by
    intro i j z1 z2 z3 z4
    rw [← hw3, rd_ne (by omega), hu2.2 _ _ (by simp [aQ] <;> omega), hu.2 _ _ (by simp [aP] <;> omega), rd_ne (by omega)]
  have g11 : w3.1 1 11 = nI k := by rw [← hw3]; exact e11
  have g12 : w3.1 1 12 = 0 := by rw [← hw3, rd_s]
  have gid : w3.2.2 = w.2.2 := by rw [← hw3]; show u2.2.2 = w.2.2; rw [hu2.1, hu.1]; rfl
  have gk : w3.1 58 1 = nI m1 := by rw [← hw3, rd_i (by omega), k1]
  have g59 : ∀ j, j < (m1 + 1) * 59 → w3.1 59 j = w.1 (62 + 2 * k) j := by
    intro j hj
    rw [← hw3, rd_i (by omega), hu2.2 _ _ (by simp [aQ]), h2 j hj, rd_i (by omega), show 61 + 2 * k + 1 = 62 + 2 * k by omega]
  have g57 : ∀ j, j < 59 → w3.1 57 j = w.1 (62 + 2 * k) (m1 * 59 + j) := by
    intro j hj
    rw [← hw3, rd_i (by omega), k2 j hj, h2 _ (by omega), rd_i (by omega), show 61 + 2 * k + 1 = 62 + 2 * k by omega]
  apply eX12_restore
  unfold vX12_restore_0
  rintro _ rfl
  have e66 : (q_wI w3 79 0 0).1 79 66 = nI (k + 1) := by rw [rd_j (by omega), g _ _ (by omega) (by omega) (by omega) (by omega), i2]
  rw [e66, e0]
  refine ⟨fun _ => ?_, fun z => absurd (nI_ne0 (by omega) (by omega)) z⟩
  rintro _ rfl
  rw [rd_s]
  apply eX12_keepsAll
  unfold vX12_keepsAll_0
  have e1 : (1072 : Int32) * nI k = nI (1072 * k) := by rw [show (1072 : Int32) = nI 1072 from rfl, pk_mul]
  rw [e1]
  refine R_keepL (s := 63) (q_id_of rfl) (by omega) (by decide) (by omega) (fun u4 hu4 c4 => ?_)
  refine R_keepL (s := 1008) (q_id_of rfl) (by omega) (by decide) (by omega) (fun u5 hu5 c5 => ?_)
  refine ⟨fun _ => ?_, fun z => absurd rfl z⟩
  rw [nI_clamp (by omega)]
  refine ⟨(vp_nI (by omega)).mpr (by omega), ?_⟩
  rintro _ rfl
  refine ⟨rfl, ?_⟩
  rintro _ rfl
  have f5 : ∀ i j, i ≠ 104 → i ≠ 106 → ¬ (i = 79 ∧ (j = 0 ∨ j = 66)) → u5.1 i j = w3.1 i j := by
    intro i j z1 z2 z3
    rw [hu5.2 _ _ (by simp [z2]), hu4.2 _ _ (by simp [z1]), rd_ne (by omega), rd_ne (by omega)]
  have f66 : u5.1 79 66 = nI k := by rw [hu5.2 _ _ rfl, hu4.2 _ _ rfl, rd_s]
  have e66b : (q_wI (q_wI u5 79 45 (u5.1 115 (1072 * k + 63 + 1008))) 79 46 0).1 79 66 = nI k := by rw [rd_j (by omega), rd_j (by omega), f66]
  rw [e66b]
  refine ⟨_, rfl, rfl, ?_⟩
  have gwk : u5.1 115 (1072 * k + 63 + 1008) = nI m1 := by
    rw [f5 _ _ (by omega) (by omega) (by omega), g _ _ (by omega) (by omega) (by omega) (by omega)]
    exact b3
  rw [gwk]
  generalize hw6 : q_wI (q_wI u5 79 45 (nI m1)) 79 46 0 = w6
  have gg : ∀ i j, i ≠ 57 → i ≠ 59 → ¬ (i = 58 ∧ j = 1) → ¬ (i = 1 ∧ (j = 11 ∨ j = 12)) → i ≠ 104 → i ≠ 106 → ¬ (i = 79 ∧ (j = 0 ∨ j = 66 ∨ j = 45 ∨ j = 46)) → w6.1 i j = w.1 i j := by
    intro i j z1 z2 z3 z4 z5 z6 z7
    rw [← hw6, rd_ne (by omega), rd_ne (by omega), f5 i j z5 z6 (by omega), g i j z1 z2 z3 z4]
  have gpos : ∀ i j, i ≠ 104 → i ≠ 106 → i ≠ 79 → w6.1 i j = w3.1 i j := by
    intro i j z1 z2 z3
    rw [← hw6, rd_i z3, rd_i z3, f5 i j z1 z2 (by omega)]
  have gnow : ∀ j, j < 63 → w6.1 104 j = w.1 115 (1072 * k + j) := by
    intro j hj
    rw [← hw6, rd_i (by omega), rd_i (by omega), hu5.2 _ _ rfl, c4 j hj, rd_i (by omega), rd_i (by omega), g _ _ (by omega) (by omega) (by omega) (by omega)]
  have gpast : ∀ j, j < 1008 → w6.1 106 j = w.1 115 (1072 * k + 63 + j) := by
    intro j hj
    rw [← hw6, rd_i (by omega), rd_i (by omega), c5 j hj, hu4.2 _ _ rfl, rd_i (by omega), rd_i (by omega), g _ _ (by omega) (by omega) (by omega) (by omega)]
  refine ⟨T, β, C, n, R m1, B, m, mkCo hC ?_ (fun i j q => gg i j (by omega) (by omega) (by omega) (by omega) (by omega) (by omega) (by omega)) (fun j hj => ?_) (fun j hj => ?_) (b4 m1 (Nat.le_refl _)).2, ⟨m1, R, b1, ?_, ?_, fun i hi => ⟨fun j hj => ?_, fun j hj => ?_, (b4 i (by omega)).2⟩⟩, ⟨k, by omega, ?_, ?_, fun i hi => (i3 i (by omega)).eq (fun a j q => gg a j (by omega) (by omega) (by omega) (by omega) (by omega) (by omega) (by omega))⟩, hTp.eq (fun i j q => gg i j (by omega) (by omega) (by omega) (by omega) (by omega) (by omega) (by omega)), ?_⟩
  · rw [← hw6]
    show u5.2.2 = w.2.2
    rw [hu5.1, hu4.1]
    exact gid
  · rw [gpos _ _ (by omega) (by omega) (by omega), g57 j hj]; exact (b4 m1 (Nat.le_refl _)).1 j hj
  · rw [gnow j hj]; exact b5 j hj
  · rw [gpos _ _ (by omega) (by omega) (by omega), gk]
  · rw [← hw6, rd_j (by omega), rd_s]
  · rw [gpos _ _ (by omega) (by omega) (by omega), g59 _ (by omega)]; exact (b4 i (by omega)).1 j hj
  · rw [gpast _ (by omega)]; exact b6 i hi j hj
  · rw [gpos _ _ (by omega) (by omega) (by omega), g11]
  · rw [← hw6, rd_j (by omega), rd_j (by omega), f66]
  · obtain ⟨c1, c2, c3, c4⟩ := hCnt
    unfold cnt
    rw [gg 1 13 (by omega) (by omega) (by omega) (by omega) (by omega) (by omega) (by omega), gg 1 14 (by omega) (by omega) (by omega) (by omega) (by omega) (by omega) (by omega), gg 80 0 (by omega) (by omega) (by omega) (by omega) (by omega) (by omega) (by omega), gg 80 1 (by omega) (by omega) (by omega) (by omega) (by omega) (by omega) (by omega), gg 2 6 (by omega) (by omega) (by omega) (by omega) (by omega) (by omega) (by omega), gg 79 8 (by omega) (by omega) (by omega) (by omega) (by omega) (by omega) (by omega)]
    refine ⟨c1, c2, ?_, c4.1, by rw [← hw6]; show u5.2.1 75 0 = 0; rw [hu5.1, hu4.1]; show w3.2.1 75 0 = 0; rw [← hw3]; show u2.2.1 75 0 = 0; rw [hu2.1, hu.1]; exact c4.2⟩
    rw [gpos _ _ (by omega) (by omega) (by omega), g12, ← hw6, rd_s]
