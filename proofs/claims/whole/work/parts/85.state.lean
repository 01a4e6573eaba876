/-! undo, images: what is kept and brought back -/
theorem rd_ne {w : q_Sm} {a k i j : Nat} {v : Int32} (h : ¬ (i = a ∧ j = k)) : (q_wI w a k v).1 i j = w.1 i j := by
  by_cases e : i = a
  · exact rd_j (fun q => h ⟨e, q⟩)
  · exact rd_i e
theorem mkCo {T : Tb} {β C : Nat → Nat} {n : Nat} {S S' B : Nat → Nat} {m : Nat} {w u : q_Sm} (h : Co T β C n S B m w) (h2 : u.2.2 = w.2.2)
    (k : ∀ i j, i < 38 ∧ i ≠ 1 ∨ i = 40 ∨ i = 41 ∨ ((i = 44 ∨ i = 48) ∧ j < 4) ∨ (45 ≤ i ∧ i ≤ 47) ∨ (49 ≤ i ∧ i ≤ 51) ∨ i = 73 ∨ i = 76 ∨ (i = 79 ∧ (29 ≤ j ∧ j ≤ 33 ∨ j = 40 ∨ j = 55)) ∨ (89 ≤ i ∧ i ≤ 95) ∨ i = 98 ∨ i = 99 ∨ i = 108 → u.1 i j = w.1 i j) (hS : cR 57 S' u) (hSr : rR 104 S' u) (hok : okr T S') : Co T β C n S' B m u := by
  obtain ⟨a1, a2, a3, a4, a5, a6, a7, a8⟩ := h
  have ho := a2.1
  have hl := a2.2.1
  unfold Co ids
  rw [h2]
  refine ⟨a1, ⟨a2.1, a2.2.1, a2.2.2.1, a2.2.2.2.1.eq (fun i j q q2 => k i j (by omega)), a2.2.2.2.2.1, ?_, fun j hj => ?_⟩, a3.eq (fun i j q => k i j (by omega)), hS, hSr, hok, a7.eq (fun i j q => k i j (by omega)), a8.eq h2 (by have := a1.2.2; omega) (fun i j q => k i j (by omega))⟩
  · rw [k _ _ (by omega)]; exact a2.2.2.2.2.2.1
  · rw [k _ _ (by omega)]; exact a2.2.2.2.2.2.2 j hj
theorem ie_0 {o : Nat} (h : o = 58 ∨ o = 61 ∨ o = 63 ∨ o = 65) : q_id 116 8 o ∧ q_id 116 14 (o + 1) ∧ (q_sh (o + 1)).2 = 1003 := by
  rcases h with rfl | rfl | rfl | rfl <;> exact ⟨q_id_of rfl, q_id_of rfl, rfl⟩
def aP (o i j : Nat) : Bool := i == o + 1 || (i == o && j == 1)
theorem K_push {d o n : Nat} {w : q_Sm} {Q : q_Sm → Prop} {X : s_Xo} (ho : o = 58 ∨ o = 61 ∨ o = 63 ∨ o = 65) (hn : w.1 o 1 = nI n) (hn2 : n ≤ 16)
    (h : ∀ u, fr (aP o) w u → u.1 o 1 = nI (n + 1) → (∀ k, k < 59 → u.1 (o + 1) (n * 59 + k) = w.1 57 k) → (∀ k, k < n * 59 → u.1 (o + 1) k = w.1 (o + 1) k) → Q u) : s_EvV (d + 1) 0 mX8_push w [.ref o, .ref 56] Q X := by
  obtain ⟨q1, q2, q3⟩ := ie_0 ho
  apply eX8_push
  unfold vX8_push_0
  have e1 : nI n * 59 = nI (n * 59) := by rw [show (59 : Int32) = nI 59 from rfl, pk_mul]
  rw [hn, e1, q3, nI_clamp (by omega)]
  refine ⟨q1, fun z => absurd (show nI 16 < nI n from z) (nI_nlt hn2 (by omega)), fun _ => ⟨q_id_of rfl, q1, q1, ⟨q_id_of rfl, q2⟩, ⟨by decide, nI_pos (by omega), by decide⟩, ⟨by decide, ?_⟩, ?_⟩⟩
  · show n * 59 + 59 ≤ 1003
    omega
  rintro _ rfl
  refine ⟨q1, q1, ?_⟩
  rintro _ rfl
  have ho2 : ¬ o = o + 1 := by omega
  have ec : ∀ i j, (q_cp w (56 + 1) (Int32.toNatClampNeg 0) (o + 1) (n * 59) (Int32.toNatClampNeg 59)).1 i j = if i = o + 1 then (if n * 59 ≤ j ∧ j < n * 59 + 59 then w.1 57 (0 + (j - n * 59)) else w.1 i j) else w.1 i j := fun _ _ => rfl
  refine ⟨rfl, h _ ⟨rfl, fun i j q => ?_⟩ ?_ (fun k hk => ?_) (fun k hk => ?_)⟩
  · have hi : ¬ i = o + 1 := fun e => by simp [aP, e] at q
    by_cases hi2 : i = o
    · subst hi2
      have hj : j ≠ 1 := fun e => by simp [aP, e] at q
      rw [rd_j hj, ec, if_neg hi]
    · rw [rd_i hi2, ec, if_neg hi]
  · rw [rd_s, ec, if_neg ho2, hn, nI_1]
  · rw [rd_i (by omega), ec, if_pos rfl, if_pos (by omega), Nat.zero_add, Nat.add_sub_cancel_left]
  · rw [rd_i (by omega), ec, if_pos rfl, if_neg (by omega)]
def aQ (o i j : Nat) : Bool := i == 57 || (i == o && j == 1)
theorem K_pop {d o n : Nat} {w : q_Sm} {Q : q_Sm → Prop} {X : s_Xo} (ho : o = 58 ∨ o = 61 ∨ o = 63 ∨ o = 65) (hn : w.1 o 1 = nI (n + 1)) (hn2 : n ≤ 16)
    (h : ∀ u, fr (aQ o) w u → u.1 o 1 = nI n → (∀ k, k < 59 → u.1 57 k = w.1 (o + 1) (n * 59 + k)) → Q u) : s_EvV (d + 1) 0 mX8_pop w [.ref o, .ref 56] Q X := by
  obtain ⟨q1, q2, q3⟩ := ie_0 ho
  apply eX8_pop
  unfold vX8_pop_0
  have e0 : nI (n + 1) - 1 = nI n := by rw [L_1, pk_sub (by omega)]; rfl
  rw [hn, e0, q3]
  refine ⟨q1, fun z => absurd (show nI (n + 1) ≤ nI 0 from z) (nI_ge (by omega) (by omega)), fun _ => ⟨q1, q1, ?_⟩⟩
  rintro _ rfl
  have e1 : (q_wI w o 1 (nI n)).1 o 1 * 59 = nI (n * 59) := by rw [rd_s, show (59 : Int32) = nI 59 from rfl, pk_mul]
  rw [e1, nI_clamp (by omega)]
  refine ⟨q1, q1, q_id_of rfl, ⟨q2, q_id_of rfl⟩, ⟨nI_pos (by omega), by decide, by decide⟩, ⟨?_, by decide⟩, ?_⟩
  · show n * 59 + 59 ≤ 1003
    omega
  rintro _ rfl
  have ec : ∀ i j, (q_cp (q_wI w o 1 (nI n)) (o + 1) (n * 59) (56 + 1) (Int32.toNatClampNeg 0) (Int32.toNatClampNeg 59)).1 i j = if i = 57 then (if 0 ≤ j ∧ j < 0 + 59 then (q_wI w o 1 (nI n)).1 (o + 1) (n * 59 + (j - 0)) else (q_wI w o 1 (nI n)).1 i j) else (q_wI w o 1 (nI n)).1 i j := fun _ _ => rfl
  refine ⟨rfl, h _ ⟨rfl, fun i j q => ?_⟩ ?_ (fun k hk => ?_)⟩
  · have hi : ¬ i = 57 := fun e => by simp [aQ, e] at q
    rw [ec, if_neg hi]
    by_cases hi2 : i = o
    · subst hi2
      have hj : j ≠ 1 := fun e => by simp [aQ, e] at q
      rw [rd_j hj]
    · rw [rd_i hi2]
  · rw [ec, if_neg (by omega), rd_s]
  · rw [ec, if_pos rfl, if_pos (by omega), rd_i (by omega), Nat.sub_zero]
theorem K_pcopy {d o r n : Nat} {w : q_Sm} {Q : q_Sm → Prop} {X : s_Xo} (ho : o = 58 ∨ o = 61 ∨ o = 63 ∨ o = 65) (hr : r = 58 ∨ r = 61 ∨ r = 63 ∨ r = 65) (hor : o ≠ r) (hn : w.1 r 1 = nI n) (hn2 : n ≤ 17)
    (h : ∀ u, fr (aP o) w u → u.1 o 1 = nI n → (∀ k, k < n * 59 → u.1 (o + 1) k = w.1 (r + 1) k) → Q u) : s_EvV (d + 1) 0 mX8_copy w [.ref o, .ref r] Q X := by
  obtain ⟨q1, q2, q3⟩ := ie_0 ho
  obtain ⟨s1, s2, s3⟩ := ie_0 hr
  apply eX8_copy
  unfold vX8_copy_0
  rw [hn]
  refine ⟨s1, q1, ?_⟩
  rintro _ rfl
  have e1 : (q_wI w o 1 (nI n)).1 o 1 * 59 = nI (n * 59) := by rw [rd_s, show (59 : Int32) = nI 59 from rfl, pk_mul]
  rw [e1, nI_clamp (by omega), q3, s3]
  refine ⟨s1, q1, q1, ⟨s2, q2⟩, ⟨by decide, by decide, nI_pos (by omega)⟩, ⟨?_, ?_⟩, ?_⟩
  · show 0 + n * 59 ≤ 1003
    omega
  · show 0 + n * 59 ≤ 1003
    omega
  rintro _ rfl
  have ec : ∀ i j, (q_cp (q_wI w o 1 (nI n)) (r + 1) (Int32.toNatClampNeg 0) (o + 1) (Int32.toNatClampNeg 0) (n * 59)).1 i j = if i = o + 1 then (if 0 ≤ j ∧ j < 0 + n * 59 then (q_wI w o 1 (nI n)).1 (r + 1) (0 + (j - 0)) else (q_wI w o 1 (nI n)).1 i j) else (q_wI w o 1 (nI n)).1 i j := fun _ _ => rfl
  refine ⟨rfl, h _ ⟨rfl, fun i j q => ?_⟩ ?_ (fun k hk => ?_)⟩
  · have hi : ¬ i = o + 1 := fun e => by simp [aP, e] at q
    rw [ec, if_neg hi]
    by_cases hi2 : i = o
    · subst hi2
      have hj : j ≠ 1 := fun e => by simp [aP, e] at q
      rw [rd_j hj]
    · rw [rd_i hi2]
  · rw [ec, if_neg (by omega), rd_s]
  · rw [ec, if_pos rfl, if_pos (by omega), rd_i (by omega), Nat.zero_add, Nat.sub_zero]
theorem ag_undo (w : q_Sm) (hI : Inv w) : ag_D Inv 999 mX11_undo mX12_undo w [] := by
  obtain ⟨T, β, C, n, S, B, m, hC, hPst, hImg, hTp, hCnt⟩ := id hI
  obtain ⟨np, P, hnp, p1, p2, p3⟩ := id hPst
  by_cases h0 : np = 0
  · subst h0
    refine agD_ok (-1) hI (fun Q X hQ => ?_) (fun u hu Q X hQ => ?_)
    · apply eX11_undo
      unfold vX11_undo_0
      apply eX8_size
      unfold vX8_size_0
      rw [p1]
      exact ⟨q_id_of rfl, _, rfl, fun z => absurd rfl z, fun _ => ⟨_, rfl, hQ w (fr.refl _ _)⟩⟩
    · apply eX12_undo
      unfold vX12_undo_0
      rintro _ rfl
      rw [rd_j (by omega), hu.2 _ _ rfl, p2]
      exact ⟨fun z => absurd rfl z, fun _ => ⟨_, rfl, hQ _ scr_t⟩⟩
  obtain ⟨k, rfl⟩ : ∃ k, np = k + 1 := ⟨np - 1, by omega⟩
  have hk := p3 k (by omega)
  show s_EvI 999 0 mX11_undo w [.ref 1] _ X0
  apply eX11_undo
  unfold vX11_undo_0
  apply eX8_size
  unfold vX8_size_0
  rw [p1]
  refine ⟨q_id_of rfl, _, rfl, fun _ => K_pop (n := k) (Or.inl rfl) p1 (by omega) (fun u hu h1 h2 => ?_), fun z => absurd (nI_ne0 (by omega) (by omega)) z⟩
  rintro _ rfl
  apply eX8_size
  unfold vX8_size_0
  refine ⟨q_id_of rfl, _, rfl, _, rfl, ?_⟩
  rw [rd_i (by omega), h1]
  apply eX12_undo
  unfold vX12_undo_0
  rintro _ rfl
  have e45 : (q_wI (q_wI u 1 12 0) 79 0 0).1 79 45 = nI (k + 1) := by rw [rd_j (by omega), rd_i (by omega), hu.2 _ _ rfl, p2]
  have e0 : nI (k + 1) - 1 = nI k := by rw [L_1, pk_sub (by omega)]; rfl
  rw [e45, e0]
  refine ⟨fun _ => ?_, fun z => absurd (nI_ne0 (by omega) (by omega)) z⟩
  rintro _ rfl
  generalize hw3 : q_wI (q_wI (q_wI u 1 12 0) 79 0 0) 79 45 (nI k) = w3
  have g45 : w3.1 79 45 = nI k := by rw [← hw3, rd_s]
  have g : ∀ i j, ¬ (i = 57) → ¬ (i = 58 ∧ j = 1) → ¬ (i = 1 ∧ j = 12) → ¬ (i = 79 ∧ (j = 0 ∨ j = 45)) → w3.1 i j = w.1 i j := by
    intro i j q1 q2 q3 q4
    rw [← hw3, rd_ne (by omega), rd_ne (by omega), rd_ne (by omega)]
    exact hu.2 i j (by simp [aQ]; omega)
  have g57 : ∀ j, w3.1 57 j = u.1 57 j := fun j => by rw [← hw3, rd_i (by omega), rd_i (by omega), rd_i (by omega)]
  have g58 : w3.1 58 1 = nI k := by rw [← hw3, rd_i (by omega), rd_i (by omega), rd_i (by omega), h1]
  have g12 : w3.1 1 12 = 0 := by rw [← hw3, rd_i (by omega), rd_i (by omega), rd_s]
  have gid : w3.2.2 = w.2.2 := by rw [← hw3]; show u.2.2 = w.2.2; rw [hu.1]
  have loop : ∀ a, a ≤ 63 → ∀ u2, fr (fun i _ => i == 104) w3 u2 → (∀ j, j < a → u2.1 104 j = w.1 106 (63 * k + j)) → s_Ex 999 0 mX12_undo 26 [some (.ref 79), some (.int (nI a))] [] u2 (s_I (fun v2 u2 => nI k = v2 ∧ Inv u2)) X0 := by
    refine n_down ?_ ?_
    · intro u2 hu2 hc
      apply xX12_undo_26
      unfold vX12_undo_26
      refine ⟨fun _ => ?_, fun z => absurd (show nI 63 ≤ nI 63 from nI_le (by omega) (by omega)) z⟩
      rintro _ rfl
      rw [rd_j (by omega), hu2.2 _ _ rfl, g45]
      refine ⟨_, rfl, rfl, ?_⟩
      have gg : ∀ i j, ¬ (i = 57) → ¬ (i = 58 ∧ j = 1) → ¬ (i = 1 ∧ j = 12) → ¬ (i = 79 ∧ (j = 0 ∨ j = 45 ∨ j = 46)) → i ≠ 104 → (q_wI u2 79 46 0).1 i j = w.1 i j := by
        intro i j q1 q2 q3 q4 q5
        rw [rd_ne (by omega), hu2.2 _ _ (by simp [q5])]
        exact g i j q1 q2 q3 (by omega)
      refine ⟨T, β, C, n, P k, B, m, mkCo hC ?_ (fun i j q => gg i j (by omega) (by omega) (by omega) (by omega) (by omega)) (fun j hj => ?_) (fun j hj => ?_) hk.2.2, ⟨k, P, by omega, ?_, ?_, fun i hi => ⟨fun j hj => ?_, fun j hj => ?_, (p3 i (by omega)).2.2⟩⟩, hImg.eq (fun i j q => gg i j (by omega) (by omega) (by omega) (by omega) (by omega)), hTp.eq (fun i j q => gg i j (by omega) (by omega) (by omega) (by omega) (by omega)), ?_⟩
      · show u2.2.2 = w.2.2
        rw [hu2.1, gid]
      · rw [rd_i (by omega), hu2.2 _ _ rfl, g57, h2 j hj]
        exact hk.1 j hj
      · rw [rd_i (by omega), hc j hj]
        exact hk.2.1 j hj
      · rw [rd_i (by omega), hu2.2 _ _ rfl, g58]
      · rw [rd_j (by omega), hu2.2 _ _ rfl, g45]
      · rw [gg _ _ (by omega) (by omega) (by omega) (by omega) (by omega)]; exact (p3 i (by omega)).1 j hj
      · rw [gg _ _ (by omega) (by omega) (by omega) (by omega) (by omega)]; exact (p3 i (by omega)).2.1 j hj
      · obtain ⟨c1, c2, c3, c4⟩ := hCnt
        unfold cnt
        rw [gg 1 13 (by omega) (by omega) (by omega) (by omega) (by omega), gg 1 14 (by omega) (by omega) (by omega) (by omega) (by omega), gg 80 0 (by omega) (by omega) (by omega) (by omega) (by omega), gg 80 1 (by omega) (by omega) (by omega) (by omega) (by omega), gg 2 6 (by omega) (by omega) (by omega) (by omega) (by omega), gg 79 8 (by omega) (by omega) (by omega) (by omega) (by omega)]
        refine ⟨c1, c2, ?_, c4.1, by show u2.2.1 75 0 = 0; rw [hu2.1, ← hw3]; show u.2.1 75 0 = 0; rw [hu.1]; exact c4.2⟩
        rw [rd_i (by omega), hu2.2 _ _ rfl, g12, rd_s]
    · intro a ha ih u2 hu2 hc
      apply xX12_undo_26
      unfold vX12_undo_26
      have e1 : (63 : Int32) * u2.1 79 45 + nI a = nI (63 * k + a) := by rw [hu2.2 _ _ rfl, g45, show (63 : Int32) = nI 63 from rfl, pk_mul, nI_add]
      rw [e1, nI_clamp (by omega), nI_clamp (by omega), nI_1]
      refine ⟨fun z => absurd (show nI 63 ≤ nI a from z) (nI_ge ha (by omega)), fun _ => ⟨(vp_nI (by omega)).mpr (by omega), (vp_nI (by omega)).mpr ha, ?_⟩⟩
      rintro _ rfl
      refine ih _ (hu2.put (by simp)) (fun j hj => ?_)
      rw [rd_e, if_pos rfl]
      split
      · rename_i e
        rw [e, hu2.2 _ _ rfl, g _ _ (by omega) (by omega) (by omega) (by omega)]
      · exact hc j (by omega)
  exact loop 0 (by omega) w3 (fr.refl _ _) (fun j hj => absurd hj (Nat.not_lt_zero _))
