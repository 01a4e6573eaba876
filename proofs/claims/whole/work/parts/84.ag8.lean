def stA (T : Tb) (n g f k : Nat) : Nat := if k = 0 then n - g else lsW (T 7 4) n g f k
theorem stA_b {T : Tb} {n g f k : Nat} (ht : tb T) (hn : n ≤ 999) (hf : f ≤ 999) (hk : k ≤ 6) : stA T n g f k < 2 ^ 62 := by
  have hfg : T 7 4 ≤ 16 := ht.1.2.2.2.2
  have h1 := lsW_le (n := n) (g := g) (f := f) hfg k
  have hp := p16 k (by omega)
  have h2 : (n + f) * 16 ^ k ≤ 1998 * 268435456 := Nat.mul_le_mul (by omega) hp.1
  unfold stA
  split <;> omega
theorem ag_settle (w : q_Sm) (hI : Inv w) (x1 x2 x3 x4 x5 : Int32) : ag_J Inv 998 1 er_I mX11_settle mX12_settle w [.int x1, .int x2, .int x3, .int x4, .int x5] := by
  obtain ⟨T, β, C, n, S, B, m, hC, hPst, hImg, hTp, hCnt⟩ := id hI
  have hE := hC.2.1
  have ht := hE.2.2.1
  have hRE := hC.2.2.1
  rcases r4_c x1 x2 x3 x4 with e0 | ⟨p0, j1, j2, j3, j4, ⟨g1, rfl⟩, ⟨g2, rfl⟩, ⟨g3, rfl⟩, g4, rfl⟩
  · refine agJ_no hI "java/lang/IllegalArgumentException" (nI 1) 14 1 (by omega) ⟨rfl, rfl⟩ (fun Q X hX => ?_) (fun u hu Q X hQ => ?_)
    · apply eX11_settle
      unfold vX11_settle_0
      refine K_areS ?_
      rw [e0]
      exact ⟨fun _ => K_req0 hX, fun z => absurd rfl z⟩
    · have hE1 : RE T C n (q_wI u 79 0 0) := (hRE.n1 hu).t
      apply eX12_settle
      unfold vX12_settle_0
      rintro _ rfl
      refine R_isSet ?_
      rw [e0]
      refine ⟨fun _ => R_no (k := 1) (t := 1) (by omega) (by omega) (by omega) ?_, fun z => absurd rfl z⟩
      exact ⟨fun z => absurd rfl z, fun _ => ⟨_, rfl, hQ⟩⟩
  rcases rng x5 1 (by omega) with ⟨j5, g5, rfl⟩ | e1
  rotate_left
  · have e1 : r_in x5 0 1 = 0 := e1
    refine agJ_no hI "java/lang/IllegalArgumentException" (nI 1) 14 1 (by omega) ⟨rfl, rfl⟩ (fun Q X hX => ?_) (fun u hu Q X hQ => ?_)
    · apply eX11_settle
      unfold vX11_settle_0
      refine K_areS ?_
      rw [p0]
      refine ⟨fun z => absurd z (by decide), fun _ => K_isIn ?_⟩
      rw [e1]
      exact ⟨fun _ => K_req0 hX, fun z => absurd rfl z⟩
    · have hE1 : RE T C n (q_wI u 79 0 0) := (hRE.n1 hu).t
      apply eX12_settle
      unfold vX12_settle_0
      rintro _ rfl
      refine R_isSet ?_
      rw [p0]
      refine ⟨fun z => absurd z (by decide), fun _ => R_within ?_⟩
      rw [e1]
      refine ⟨fun _ => R_no (k := 1) (t := 1) (by omega) (by omega) (by omega) ?_, fun z => absurd rfl z⟩
      exact ⟨fun z => absurd rfl z, fun _ => ⟨_, rfl, hQ⟩⟩
  have p1 : r_in (nI j5) 0 1 = 1 := r_in1 (a := 0) (b := 1) (by omega) (by omega) (by omega)
  have hb := stA_b (g := j2) ht g1 g3 g4
  have e4 : (4 : Int32) * nI j4 = nI (4 * j4) := by rw [L_4, pk_mul]
  have esh : (1 : Int64) <<< (Int32.toInt64 (nI (4 * j4)) &&& 63) = lN (2 ^ (4 * j4)) := by
    have := wb_shl 1 (k := 4 * j4) (by omega)
    rw [Nat.one_mul] at this
    exact this
  have hp := p16 j4 (by omega)
  rw [p16_2] at hp
  refine agJ_ok (lN ((if j5 = 0 then stA T j1 j2 j3 j4 else 2 ^ (4 * j4)) / Nat.gcd (stA T j1 j2 j3 j4) (2 ^ (4 * j4)))) hI (fun Q X hQ => ?_) (fun u hu Q X hQ => ?_)
  · apply eX11_settle
    unfold vX11_settle_0
    refine K_areS ?_
    rw [p0]
    refine ⟨fun z => absurd z (by decide), fun _ => K_isIn ?_⟩
    rw [p1]
    refine ⟨fun z => absurd z (by decide), fun _ => K_req1 (K_payOff (by omega) (by omega) ?_)⟩
    rw [e4, esh, lN_mul]
    have hb2 : (j1 - j2) * 2 ^ (4 * j4) ≤ 999 * 268435456 := Nat.mul_le_mul (by omega) hp.1
    refine ⟨fun z => ?_, fun z => ?_⟩
    · have z : nI j4 ≤ nI 0 := z
      rw [nI_leI (by omega) (by omega)] at z
      have : j4 = 0 := by omega
      subst this
      have es : (j1 - j2) * 2 ^ (4 * 0) = stA T j1 j2 j3 0 := by simp [stA]
      rw [es]
      exact K_settleL hb g4 (by omega) (hQ w (fr.refl _ _))
    · have z : ¬ nI j4 ≤ nI 0 := z
      rw [nI_leI (by omega) (by omega)] at z
      refine K_waitLoss hE rfl g1 g2 g3 g4 (by omega) ?_
      have hw := wtW_le (n := j1) (g := j2) (f := j3) (k := j4 - 1) ht.1.2.2.2.2
      rw [show j4 - 1 + 1 = j4 by omega, p16_2] at hw
      have hb3 : (j1 + j3) * 2 ^ (4 * j4) ≤ 1998 * 268435456 := Nat.mul_le_mul (by omega) hp.1
      refine k_minL (by omega) (by omega) ?_
      have es : min ((j1 - j2) * 2 ^ (4 * j4)) (wtW (T 7 4) j1 j2 j3 (j4 - 1)) = stA T j1 j2 j3 j4 := by
        obtain ⟨k, rfl⟩ : ∃ k, j4 = k + 1 := ⟨j4 - 1, by omega⟩
        rw [← p16_2]
        unfold stA
        rw [if_neg (by omega)]
        rfl
      rw [es]
      exact K_settleL hb g4 (by omega) (hQ w (fr.refl _ _))
  · have hCu := hC.sim hu
    have hE1 : RE T C n (q_wI u 79 0 0) := hCu.2.2.1.t
    have h79 : (q_wI u 79 0 0).1 79 0 = 0 := rd_s
    apply eX12_settle
    unfold vX12_settle_0
    rintro _ rfl
    refine R_isSet ?_
    rw [p0]
    refine ⟨fun z => absurd z (by decide), fun _ => R_within ?_⟩
    rw [p1]
    refine ⟨fun z => absurd z (by decide), fun _ => R_may1 h79 ⟨fun _ => ?_, fun z => absurd (show ¬ (1 : Int32) = 0 by decide) z⟩⟩
    rw [e4, esh]
    refine ⟨fun z => ?_, fun z => ?_⟩
    · have hz : j4 ≠ 0 := fun q => z (by rw [q]; rfl)
      have es : lsW (T 7 4) j1 j2 j3 j4 = stA T j1 j2 j3 j4 := by unfold stA; rw [if_neg hz]
      have key := (R_losesOf (X := X) hE1 g1 g2 g3 j4 g4).1 (996 - 2 * j4)
      rw [show 996 - 2 * j4 + 2 * j4 + 2 = 998 by omega, es] at key
      refine key _ (R_least (by omega) hp.2 (by omega) (by omega) ⟨_, rfl, ?_⟩)
      exact hQ _ scr_t h79
    · have z2 : nI j4 = nI 0 := Decidable.not_not.mp z
      rw [nI_eq (by omega) (by omega)] at z2
      subst z2
      refine R_zero (by omega) (by omega) ?_
      rw [nI_l (by omega)]
      exact R_least (by omega) (by omega) (by omega) (by omega) ⟨_, rfl, hQ _ scr_t h79⟩
theorem ag_now (w : q_Sm) (hI : Inv w) (x1 x2 x3 x4 : Int32) : ag_Z Inv 998 1 er_I mX11_now mX12_now w [.int x1, .int x2, .int x3, .int x4] := by
  obtain ⟨T, β, C, n, S, B, m, hC, hPst, hImg, hTp, hCnt⟩ := id hI
  have hE := hC.2.1
  have ht := hE.2.2.1
  have hRE := hC.2.2.1
  rcases r4_c x1 x2 x3 x4 with e0 | ⟨p0, j1, j2, j3, j4, ⟨g1, rfl⟩, ⟨g2, rfl⟩, ⟨g3, rfl⟩, g4, rfl⟩
  · refine agZ_no hI "java/lang/IllegalArgumentException" (nI 1) 14 1 (by omega) ⟨rfl, rfl⟩ (fun Q X hX => ?_) (fun u hu Q X hQ => ?_)
    · apply eX11_now
      unfold vX11_now_0
      refine K_areS ?_
      rw [e0]
      exact K_req0 hX
    · have hE1 : RE T C n (q_wI u 79 0 0) := (hRE.n1 hu).t
      apply eX12_now
      unfold vX12_now_0
      rintro _ rfl
      refine R_isSet ?_
      rw [e0]
      refine R_no (k := 1) (t := 1) (by omega) (by omega) (by omega) ?_
      exact ⟨fun z => absurd rfl z, fun _ => ⟨_, rfl, hQ⟩⟩
  have e4 : (4 : Int32) * nI j4 = nI (4 * j4) := by rw [L_4, pk_mul]
  have hp := p16 j4 (by omega)
  rw [p16_2] at hp
  have hb2 : (j1 - j2) * 2 ^ (4 * j4) ≤ 999 * 268435456 := Nat.mul_le_mul (by omega) hp.1
  have hb3 : (j1 + j3) * 2 ^ (4 * j4) ≤ 1998 * 268435456 := Nat.mul_le_mul (by omega) hp.1
  have hw : j4 ≠ 0 → wtW (T 7 4) j1 j2 j3 (j4 - 1) ≤ 1998 * 268435456 := fun q => by
    have hw := wtW_le (n := j1) (g := j2) (f := j3) (k := j4 - 1) ht.1.2.2.2.2
    rw [show j4 - 1 + 1 = j4 by omega, p16_2] at hw
    omega
  refine agZ_ok (if j4 = 0 ∨ (j1 - j2) * 2 ^ (4 * j4) ≤ wtW (T 7 4) j1 j2 j3 (j4 - 1) then 1 else 0) hI (fun Q X hQ => ?_) (fun u hu Q X hQ => ?_)
  · have fin := hQ w (fr.refl _ _)
    apply eX11_now
    unfold vX11_now_0
    refine K_areS ?_
    rw [p0]
    refine K_req1 ⟨fun z => ?_, fun z => K_payOff (by omega) (by omega) ?_⟩
    · have z2 : nI j4 = nI 0 := z
      rw [nI_eq (by omega) (by omega)] at z2
      rw [if_pos (Or.inl z2)] at fin
      exact ⟨_, rfl, fin⟩
    · have hz : j4 ≠ 0 := fun q => z (by rw [q]; rfl)
      have hw := hw hz
      refine K_waitLoss hE rfl g1 g2 g3 g4 (by omega) ?_
      rw [e4, wb_shl _ (by omega)]
      simp only [lg_cmp_gt, pk_lLT (show wtW (T 7 4) j1 j2 j3 (j4 - 1) < 2 ^ 63 by omega) (show (j1 - j2) * 2 ^ (4 * j4) < 2 ^ 63 by omega)]
      refine ⟨fun q => ?_, fun q => ?_⟩
      · rw [if_neg (by omega)] at fin; exact ⟨_, rfl, fin⟩
      · rw [if_pos (Or.inr (by omega))] at fin; exact ⟨_, rfl, fin⟩
  · have hCu := hC.sim hu
    have hE1 : RE T C n (q_wI u 79 0 0) := hCu.2.2.1.t
    have h79 : (q_wI u 79 0 0).1 79 0 = 0 := rd_s
    have fin := hQ _ scr_t h79
    apply eX12_now
    unfold vX12_now_0
    rintro _ rfl
    refine R_isSet ?_
    rw [p0]
    refine R_may1 h79 ⟨fun _ => ⟨fun z => ?_, fun z => R_zero (by omega) (by omega) ?_⟩, fun z => absurd (show ¬ (1 : Int32) = 0 by decide) z⟩
    · have z2 : nI j4 = nI 0 := z
      rw [nI_eq (by omega) (by omega)] at z2
      rw [if_pos (Or.inl z2)] at fin
      exact ⟨_, rfl, fin⟩
    · have hz : j4 ≠ 0 := fun q => z (by rw [q]; rfl)
      have hw := hw hz
      have key := (R_losesOf (X := X) hE1 g1 g2 g3 (j4 - 1) (by omega)).2 (995 - 2 * (j4 - 1))
      rw [show 995 - 2 * (j4 - 1) + 2 * (j4 - 1) + 3 = 998 by omega, show j4 - 1 + 1 = j4 by omega] at key
      refine key _ ?_
      rw [e4, nI_l (by omega), wb_shl _ (by omega)]
      simp only [lg_cmp_gt, pk_lLT (show wtW (T 7 4) j1 j2 j3 (j4 - 1) < 2 ^ 63 by omega) (show (j1 - j2) * 2 ^ (4 * j4) < 2 ^ 63 by omega)]
      refine ⟨fun q => ?_, fun q => ?_⟩
      · rw [if_neg (by omega)] at fin; exact ⟨_, rfl, fin⟩
      · rw [if_pos (Or.inr (by omega))] at fin; exact ⟨_, rfl, fin⟩
