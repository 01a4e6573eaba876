/-! a coast that has been told is taken: clearing, the start, what the reference sets -/
def t0 : Tb := fun _ _ => 0
theorem tb_t0 : tb t0 :=
  ⟨⟨by decide, by decide, by decide, by decide, by decide⟩, fun c hc => absurd hc (Nat.not_lt_zero _), fun d hd => absurd hd (Nat.not_lt_zero _), fun k hk => absurd hk (Nat.not_lt_zero _), fun x _ => Nat.zero_le _, fun k _ => Nat.zero_le _, fun v hv => absurd hv (Nat.not_lt_zero _), fun k _ => Nat.zero_le _, fun c o _ _ _ => rfl⟩
theorem K_fill {d r m : Nat} {w : q_Sm} {Q : q_Sm → Prop} {X : s_Xo} (hr : (0 < r ∧ r ≤ 116) ∧ 13 ≤ (q_sh r).1 ∧ (q_sh r).1 < 18) (hi : q_id 116 14 r) (hm : (q_sh r).2 = m) (hm2 : m < 2 ^ 31) (h : ∀ u, fr (fun i _ => i == r) w u → (∀ j, j < m → u.1 r j = nI 0) → Q u) : s_EvV (d + 1) 0 mK_fill w [.ref r, .int 0] Q X := by
  have loop : ∀ k, k ≤ m → ∀ u, fr (fun i _ => i == r) w u → (∀ j, j < k → u.1 r j = nI 0) → s_Ex (d + 1) 0 mK_fill 5 [some (.ref r), some (.int 0), some (.int (nI k)), some (.int (nI m))] [] u (s_V Q) X := by
    refine n_down ?_ ?_
    · intro u f c
      apply xK_fill_5
      unfold vK_fill_5
      refine ⟨fun _ => ?_, fun z => absurd (nI_le (Nat.le_refl _) hm2) z⟩
      rw [s_Vn]
      exact h u f c
    · intro k hk ih u f c
      apply xK_fill_5
      unfold vK_fill_5
      rw [nI_clamp (by omega), nI_1 k, hm]
      refine ⟨fun z => absurd z (nI_ge hk (by omega)), fun _ => ⟨hi, (vp_nI (by omega)).mpr hk, ?_⟩⟩
      intro w2 e2
      refine ih w2 (by rw [e2]; exact f.put (by simp)) (fun j hj => ?_)
      by_cases q : j = k
      · rw [q, e2, rd_s]; rfl
      · rw [e2, rd_j q]; exact c j (by omega)
  apply eK_fill
  unfold vK_fill_0
  refine ⟨hr, ?_⟩
  rw [hm]
  exact loop 0 (Nat.zero_le _) w (fr.refl _ _) (fun j hj => absurd hj (by omega))
theorem fl_10 {o : Nat} (ho : o = 4 ∨ o = 20) : ((0 < o + 10 ∧ o + 10 ≤ 116) ∧ 13 ≤ (q_sh (o + 10)).1 ∧ (q_sh (o + 10)).1 < 18) ∧ q_id 116 14 (o + 10) ∧ (q_sh (o + 10)).2 = 20 := by
  rcases ho with rfl | rfl <;> exact ⟨⟨by decide, by decide, by decide⟩, q_id_of rfl, rfl⟩
theorem fl_11 {o : Nat} (ho : o = 4 ∨ o = 20) : ((0 < o + 11 ∧ o + 11 ≤ 116) ∧ 13 ≤ (q_sh (o + 11)).1 ∧ (q_sh (o + 11)).1 < 18) ∧ q_id 116 14 (o + 11) ∧ (q_sh (o + 11)).2 = 4 := by
  rcases ho with rfl | rfl <;> exact ⟨⟨by decide, by decide, by decide⟩, q_id_of rfl, rfl⟩
theorem fl_15 {o : Nat} (ho : o = 4 ∨ o = 20) : ((0 < o + 15 ∧ o + 15 ≤ 116) ∧ 13 ≤ (q_sh (o + 15)).1 ∧ (q_sh (o + 15)).1 < 18) ∧ q_id 116 14 (o + 15) ∧ (q_sh (o + 15)).2 = 36 := by
  rcases ho with rfl | rfl <;> exact ⟨⟨by decide, by decide, by decide⟩, q_id_of rfl, rfl⟩
theorem fl_57 : ((0 < 57 ∧ 57 ≤ 116) ∧ 13 ≤ (q_sh 57).1 ∧ (q_sh 57).1 < 18) ∧ q_id 116 14 57 ∧ (q_sh 57).2 = 59 :=
  ⟨⟨by decide, by decide, by decide⟩, q_id_of rfl, rfl⟩
def aCl (o i _j : Nat) : Bool := decide (o ≤ i) && decide (i ≤ o + 15)
theorem K_clear {d o : Nat} {w : q_Sm} {Q : q_Sm → Prop} {X : s_Xo} (ho : o = 4 ∨ o = 20) (h : ∀ u, fr (aCl o) w u → cD o t0 u → Q u) : s_EvV (d + 2) 0 mX2_clear w [.ref o] Q X := by
  obtain ⟨p1, p2, p3⟩ := fl_10 ho
  obtain ⟨q1, q2, q3⟩ := fl_11 ho
  obtain ⟨r1, r2, r3⟩ := fl_15 ho
  apply eX2_clear
  unfold vX2_clear_0
  refine ⟨ia_0 ho, ?_⟩
  intro w1 e1
  refine ⟨ia_0 ho, ?_⟩
  intro w2 e2
  refine ⟨ia_0 ho, ?_⟩
  intro w3 e3
  refine ⟨ia_0 ho, ?_⟩
  intro w4 e4
  refine ⟨ia_0 ho, ?_⟩
  intro w5 e5
  have g5 : ∀ i j, i ≠ o → w5.1 i j = w.1 i j := fun i j q => by rw [e5, rd_i q, e4, rd_i q, e3, rd_i q, e2, rd_i q, e1, rd_i q]
  have h5 : w5.2 = w.2 := by rw [e5, e4, e3, e2, e1]; rfl
  have c0 : w5.1 o 0 = nI 0 := by rw [e5, rd_j (by decide), e4, rd_j (by decide), e3, rd_j (by decide), e2, rd_j (by decide), e1, rd_s]; rfl
  have c3 : w5.1 o 3 = nI 0 := by rw [e5, rd_j (by decide), e4, rd_j (by decide), e3, rd_j (by decide), e2, rd_s]; rfl
  have c10 : w5.1 o 10 = nI 0 := by rw [e5, rd_j (by decide), e4, rd_j (by decide), e3, rd_s]; rfl
  have c14 : w5.1 o 14 = nI 0 := by rw [e5, rd_j (by decide), e4, rd_s]; rfl
  have c18 : w5.1 o 18 = nI 0 := by rw [e5, rd_s]; rfl
  clear e1 e2 e3 e4 e5
  refine ⟨ia_0 ho, K_fill (d := d) p1 p2 p3 (by decide) (fun u7 f7 k7 => ⟨ia_0 ho, K_fill (d := d) q1 q2 q3 (by decide) (fun u9 f9 k9 => ⟨ia_0 ho, K_fill (d := d) r1 r2 r3 (by decide) (fun u11 f11 k11 => ?_)⟩)⟩)⟩
  rw [s_Vn]
  have g : ∀ i j, i ≠ o + 10 → i ≠ o + 11 → i ≠ o + 15 → u11.1 i j = w5.1 i j := fun i j y1 y2 y3 => by rw [f11.2 i j (by simp [y3]), f9.2 i j (by simp [y2]), f7.2 i j (by simp [y1])]
  have z1 : ∀ c n f, n = 0 → holds c n f u11 := fun c n f h k hk => absurd hk (by omega)
  refine h u11 ⟨by rw [f11.1, f9.1, f7.1, h5], fun i j q => ?_⟩ ⟨⟨?_, ?_, ?_, ?_, ?_⟩, ⟨z1 _ _ _ rfl, z1 _ _ _ rfl⟩, ⟨z1 _ _ _ rfl, z1 _ _ _ rfl, z1 _ _ _ rfl, z1 _ _ _ rfl, z1 _ _ _ rfl⟩, z1 _ _ _ rfl, fun k hk => ?_, fun k hk => ?_, ⟨z1 _ _ _ rfl, z1 _ _ _ rfl, z1 _ _ _ rfl⟩, fun k hk => ?_⟩
  · simp [aCl] at q
    rw [g i j (by omega) (by omega) (by omega), g5 i j (by omega)]
  · rw [g _ _ (by omega) (by omega) (by omega)]; exact c0
  · rw [g _ _ (by omega) (by omega) (by omega)]; exact c3
  · rw [g _ _ (by omega) (by omega) (by omega)]; exact c10
  · rw [g _ _ (by omega) (by omega) (by omega)]; exact c14
  · rw [g _ _ (by omega) (by omega) (by omega)]; exact c18
  · rw [f11.2 _ _ (by simp), f9.2 _ _ (by simp)]; exact k7 k hk
  · rw [f11.2 _ _ (by simp)]; exact k9 k hk
  · exact k11 k hk
def aCr (i j : Nat) : Bool := (i == 79 && (decide (24 ≤ j) && decide (j ≤ 28))) || i == 85 || i == 86 || i == 88
theorem R_clears {d : Nat} {w : q_Sm} {Q : q_Sm → Prop} {X : s_Xo} (h : ∀ u, fr aCr w u → rD t0 u → Q u) : s_EvV (d + 1) 0 mX12_clears w [.ref 79] Q X := by
  apply eX12_clears
  unfold vX12_clears_0
  intro w1 e1 w2 e2 w3 e3 w4 e4 w5 e5
  have f5 : fr aCr w w5 := by rw [e5, e4, e3, e2, e1]; exact ((((fr.wr rfl).put rfl).put rfl).put rfl).put rfl
  have c0 : w5.1 79 24 = nI 0 := by rw [e5, rd_j (by decide), e4, rd_j (by decide), e3, rd_j (by decide), e2, rd_j (by decide), e1, rd_s]; rfl
  have c1 : w5.1 79 25 = nI 0 := by rw [e5, rd_j (by decide), e4, rd_j (by decide), e3, rd_j (by decide), e2, rd_s]; rfl
  have c2 : w5.1 79 26 = nI 0 := by rw [e5, rd_j (by decide), e4, rd_j (by decide), e3, rd_s]; rfl
  have c3 : w5.1 79 27 = nI 0 := by rw [e5, rd_j (by decide), e4, rd_s]; rfl
  have c4 : w5.1 79 28 = nI 0 := by rw [e5, rd_s]; rfl
  clear e1 e2 e3 e4 e5
  have L3 : ∀ k, k ≤ 36 → ∀ u, fr (fun i _ => i == 85 || i == 86 || i == 88) w5 u → (∀ j, j < 20 → u.1 85 j = nI 0) → (∀ j, j < 4 → u.1 86 j = nI 0) → (∀ j, j < k → u.1 88 j = nI 0) → s_Ex (d + 1) 0 mX12_clears 68 [some (.ref 79), some (.int (nI k))] [] u (s_V Q) X := by
    refine n_down ?_ ?_
    · intro u f x85 x86 x88
      apply xX12_clears_68
      unfold vX12_clears_68
      refine ⟨fun _ => ?_, fun z => absurd (show nI 36 ≤ nI 36 from nI_le (by omega) (by omega)) z⟩
      rw [s_Vn]
      have z1 : ∀ c n f, n = 0 → holds c n f u := fun c n f h k hk => absurd hk (by omega)
      refine h u (f5.trans (f.mono (fun i j q => by simp at q; simp [aCr]; omega))) ⟨⟨?_, ?_, ?_, ?_, ?_⟩, z1 _ _ _ rfl, z1 _ _ _ rfl, z1 _ _ _ rfl, fun k hk => x85 k hk, fun k hk => x86 k hk, z1 _ _ _ rfl, fun k hk => x88 k hk⟩
      · rw [f.2 _ _ rfl]; exact c0
      · rw [f.2 _ _ rfl]; exact c1
      · rw [f.2 _ _ rfl]; exact c2
      · rw [f.2 _ _ rfl]; exact c3
      · rw [f.2 _ _ rfl]; exact c4
    · intro k hk ih u f x85 x86 x88
      apply xX12_clears_68
      unfold vX12_clears_68
      rw [nI_clamp (by omega), nI_1 k]
      refine ⟨fun z => absurd (show nI 36 ≤ nI k from z) (nI_ge hk (by omega)), fun _ => ⟨(vp_nI (by omega)).mpr hk, ?_⟩⟩
      intro w2 e2
      refine ih w2 (by rw [e2]; exact f.put (by simp)) (fun j hj => by rw [e2, rd_i (by decide)]; exact x85 j hj) (fun j hj => by rw [e2, rd_i (by decide)]; exact x86 j hj) (fun j hj => ?_)
      by_cases q : j = k
      · rw [q, e2, rd_s]; rfl
      · rw [e2, rd_j q]; exact x88 j (by omega)
  have L2 : ∀ k, k ≤ 4 → ∀ u, fr (fun i _ => i == 85 || i == 86 || i == 88) w5 u → (∀ j, j < 20 → u.1 85 j = nI 0) → (∀ j, j < k → u.1 86 j = nI 0) → s_Ex (d + 1) 0 mX12_clears 48 [some (.ref 79), some (.int (nI k))] [] u (s_V Q) X := by
    refine n_down ?_ ?_
    · intro u f x85 x86
      apply xX12_clears_48
      unfold vX12_clears_48
      refine ⟨fun _ => ?_, fun z => absurd (show nI 4 ≤ nI 4 from nI_le (by omega) (by omega)) z⟩
      exact L3 0 (by omega) u f x85 x86 (fun j hj => absurd hj (by omega))
    · intro k hk ih u f x85 x86
      apply xX12_clears_48
      unfold vX12_clears_48
      rw [nI_clamp (by omega), nI_1 k]
      refine ⟨fun z => absurd (show nI 4 ≤ nI k from z) (nI_ge hk (by omega)), fun _ => ⟨(vp_nI (by omega)).mpr hk, ?_⟩⟩
      intro w2 e2
      refine ih w2 (by rw [e2]; exact f.put (by simp)) (fun j hj => by rw [e2, rd_i (by decide)]; exact x85 j hj) (fun j hj => ?_)
      by_cases q : j = k
      · rw [q, e2, rd_s]; rfl
      · rw [e2, rd_j q]; exact x86 j (by omega)
  have L1 : ∀ k, k ≤ 20 → ∀ u, fr (fun i _ => i == 85 || i == 86 || i == 88) w5 u → (∀ j, j < k → u.1 85 j = nI 0) → s_Ex (d + 1) 0 mX12_clears 27 [some (.ref 79), some (.int (nI k))] [] u (s_V Q) X := by
    refine n_down ?_ ?_
    · intro u f  x85
      apply xX12_clears_27
      unfold vX12_clears_27
      refine ⟨fun _ => ?_, fun z => absurd (show nI 20 ≤ nI 20 from nI_le (by omega) (by omega)) z⟩
      exact L2 0 (by omega) u f x85 (fun j hj => absurd hj (by omega))
    · intro k hk ih u f  x85
      apply xX12_clears_27
      unfold vX12_clears_27
      rw [nI_clamp (by omega), nI_1 k]
      refine ⟨fun z => absurd (show nI 20 ≤ nI k from z) (nI_ge hk (by omega)), fun _ => ⟨(vp_nI (by omega)).mpr hk, ?_⟩⟩
      intro w2 e2
      refine ih w2 (by rw [e2]; exact f.put (by simp))  (fun j hj => ?_)
      by_cases q : j = k
      · rw [q, e2, rd_s]; rfl
      · rw [e2, rd_j q]; exact x85 j (by omega)
  exact L1 0 (by omega) w5 (fr.refl _ _) (fun j hj => absurd hj (by omega))
/-- the row at the start -/
def stS (T : Tb) (n k : Nat) : Nat := if k < 10 then (if k < n then T 1 (5 * k + 2) else 0) else if k < 20 then (if k - 10 < n then T 1 (5 * (k - 10)) else 0) else 0
theorem stS_0 (T : Tb) (k : Nat) : stS T 0 k = 0 := by
  unfold stS
  by_cases q : k < 10
  · rw [if_pos q, if_neg (by omega)]
  · rw [if_neg q]
    by_cases q2 : k < 20
    · rw [if_pos q2, if_neg (by omega)]
    · rw [if_neg q2]
theorem stS_hi (T : Tb) (n : Nat) {k : Nat} (h : 20 ≤ k) : stS T n k = 0 := by
  unfold stS
  rw [if_neg (by omega), if_neg (by omega)]
theorem stS_up {T : Tb} {n : Nat} (hn : n < 10) : up (up (stS T n) n (T 1 (5 * n + 2))) (10 + n) (T 1 (5 * n)) = stS T (n + 1) := by
  funext k
  by_cases q1 : k = 10 + n
  · rw [q1, up_s]
    unfold stS
    rw [if_neg (by omega), if_pos (by omega), if_pos (by omega), show 10 + n - 10 = n by omega]
  · rw [up_n q1]
    by_cases q2 : k = n
    · rw [q2, up_s]
      unfold stS
      rw [if_pos (by omega), if_pos (by omega)]
    · rw [up_n q2]
      unfold stS
      by_cases q3 : k < 10
      · rw [if_pos q3, if_pos q3]
        by_cases q4 : k < n
        · rw [if_pos q4, if_pos (by omega)]
        · rw [if_neg q4, if_neg (by omega)]
      · rw [if_neg q3, if_neg q3]
        by_cases q5 : k < 20
        · rw [if_pos q5, if_pos q5]
          by_cases q4 : k - 10 < n
          · rw [if_pos q4, if_pos (by omega)]
          · rw [if_neg q4, if_neg (by omega)]
        · rw [if_neg q5, if_neg q5]
def s0 (T : Tb) : Nat → Nat := ltS T (stS T (T 7 1)) 0 4
theorem okr_s0 {T : Tb} (ht : tb T) : okr T (s0 T) := by
  have hd := tb_nd ht
  have e : ∀ k, k < 50 ∨ 54 ≤ k → s0 T k = stS T (T 7 1) k := fun k q => ltS_o 4 (by omega) (by omega)
  have z : ∀ k, 20 ≤ k → k < 50 ∨ 54 ≤ k → s0 T k = 0 := fun k q1 q2 => by rw [e k q2, stS_hi _ _ q1]
  refine ⟨⟨⟨fun d hd' => ⟨?_, ?_, ?_⟩, fun k hk => ⟨?_, ?_⟩, ?_⟩, ?_⟩, fun k hk => ?_⟩
  · rw [e d (by omega)]
    unfold stS
    rw [if_pos (by omega), if_pos hd']
    have := (ht.2.2.1 d hd').2.2.2.1
    omega
  · rw [e (10 + d) (by omega)]
    unfold stS
    rw [if_neg (by omega), if_pos (by omega), if_pos (by omega), show 10 + d - 10 = d by omega]
    exact (ht.2.2.1 d hd').1
  · rw [z (20 + d) (by omega) (by omega)]
    omega
  · have h1 : s0 T (50 + k) = m_light T 0 k := ltS_i 4 hk (by omega)
    have h2 := m_light_le ht 0 hk
    omega
  · rw [z (54 + k) (by omega) (by omega)]
    omega
  · rw [z 62 (by omega) (by omega)]
    omega
  · rw [z 62 (by omega) (by omega)]
    omega
  · rw [z (58 + k) (by omega) (by omega)]
    symm
    have : sm (pof T (s0 T) k) (T 7 1) = sm (fun _ => 0) (T 7 1) := sm_c _ (fun d hd' => by
      show (if cl T d = k then s0 T (30 + d) else 0) = 0
      rw [z (30 + d) (by omega) (by omega)]
      split <;> rfl)
    rw [this, sm_z (n := 0) _ (by omega) (fun _ _ _ => rfl)]
    rfl
theorem so_3 {o : Nat} (ho : o = 4 ∨ o = 20) : q_id 116 14 (o + 3) ∧ (q_sh (o + 3)).2 = 10 ∧ q_id 116 14 (o + 5) ∧ (q_sh (o + 5)).2 = 10 := by
  rcases ho with rfl | rfl <;> exact ⟨q_id_of rfl, rfl, q_id_of rfl, rfl⟩
theorem K_begin {d o l n : Nat} {T : Tb} {β C : Nat → Nat} {w : q_Sm} {Q : q_Sm → Prop} {X : s_Xo} (hE : KE o l T β C n w) (h : ∀ u, fr (aR 56) w u → cR 57 (s0 T) u → Q u) : s_EvV (d + 3) 0 mX6_start w [.ref 56, .ref o] Q X := by
  have ho := hE.1
  have hd := tb_nd hE.2.2.1
  obtain ⟨p1, p2, p3, p4⟩ := so_3 ho
  obtain ⟨f1, f2, f3⟩ := fl_57
  have hT := hE.2.2.2.1
  have loop : ∀ k, k ≤ T 7 1 → ∀ u, fr (aR 56) w u → cR 57 (stS T k) u → s_Ex (d + 3) 0 mX6_start 10 [some (.ref 56), some (.ref o), some (.int (nI k))] [] u (s_V Q) X := by
    refine n_down ?_ ?_
    · intro u fu hr
      apply xX6_start_10
      unfold vX6_start_10
      have hEu := hE.f fu (aR_lo (Or.inl rfl))
      rw [hEu.2.2.2.1.1.2.1]
      refine ⟨ia_0 ho, fun _ => ⟨q_id_of rfl, K_takeLight (d := d) hEu (Or.inl rfl) hr (by rw [stS_hi _ _ (by omega)]; omega) (fun u2 f2 r2 => ?_)⟩, fun z => absurd (nI_le (Nat.le_refl _) (by omega)) z⟩
      rw [s_Vn]
      rw [stS_hi _ _ (by omega)] at r2
      exact h u2 (fu.trans f2) r2
    · intro k hk ih u fu hr
      apply xX6_start_10
      unfold vX6_start_10
      have hEu := hE.f fu (aR_lo (Or.inl rfl))
      have hb := hEu.2.2.2.1.2.2.1
      have a1 : (0 : Int32) + nI k = nI k := by rw [show (0 : Int32) = nI 0 from rfl, nI_add, Nat.zero_add]
      have a2 : (10 : Int32) + nI k = nI (10 + k) := by rw [show (10 : Int32) = nI 10 from rfl, nI_add]
      have s57 : (q_sh (56 + 1)).2 = 59 := rfl
      rw [hEu.2.2.2.1.1.2.1, a1, a2, nI_clamp (by omega), nI_clamp (by omega), nI_1 k, p2, p4, s57]
      refine ⟨ia_0 ho, fun z => absurd z (nI_ge hk (by omega)), fun _ => ⟨q_id_of rfl, ia_0 ho, p3, (vp_nI (by omega)).mpr (by omega), q_id_of rfl, (vp_nI (by omega)).mpr (by omega), ?_⟩⟩
      intro w6 e6
      refine ⟨q_id_of rfl, ia_0 ho, p1, (vp_nI (by omega)).mpr (by omega), q_id_of rfl, (vp_nI (by omega)).mpr (by omega), ?_⟩
      intro w7 e7
      have e7 : w7 = q_wI (q_wI u 57 k (nI (T 1 (5 * k + 2)))) 57 (10 + k) (nI (T 1 (5 * k))) := by
        have b1 : u.1 (o + 5) k = nI (T 1 (5 * k + 2)) := hb.2.2.1 k hk
        have b2 : u.1 (o + 3) k = nI (T 1 (5 * k)) := hb.1 k hk
        rw [e7, e6, rd_i (show o + 3 ≠ 56 + 1 by omega), b1, b2]
      rw [e7]
      refine ih _ ((fu.put (aR_s 56 _)).put (aR_s 56 _)) ?_
      rw [← stS_up (by omega)]
      exact (hr.put (by omega) (pm_0 (by omega))).put (by omega) (pm_0 (by omega))
  apply eX6_start
  unfold vX6_start_0
  refine ⟨q_id_of rfl, K_fill (d := d + 1) (r := 57) f1 f2 f3 (by decide) (fun u fu cu => ?_)⟩
  refine loop 0 (Nat.zero_le _) u (fu.mono (fun i j q => by simp at q; rw [q]; exact aR_s 56 j)) (fun k hk => ?_)
  rw [stS_0]
  exact cu k hk
def aEm (l i j : Nat) : Bool := (i == l && j == 1) || i == l + 1
theorem K_emit0 {d l n c : Nat} {C : Nat → Nat} {x : Int32} {X : s_Xo} {w : q_Sm} {Q : q_Sm → Prop} (hl : l = 36 ∨ l = 40) (hx : x = cc c) (hn : n < 150) (hc : lc l n C w) (h : ∀ u, fr (aEm l) w u → lc l (n + 1) (up C n c) u → Q u) : s_EvV (d + 1) 0 mX5_emit w [.ref l, .int x] Q X := by
  apply eX5_emit
  unfold vX5_emit_0
  have zl : (q_sh (l + 1)).2 = 150 := zc_1 hl
  rw [hc.2.1, L_150, nI_leI (by omega) (by omega), nI_clamp (by omega), zl]
  refine ⟨ic_0 hl, fun z => absurd z (by omega), fun _ => ⟨ic_0 hl, ic_0 hl, ic_1 hl, (vp_nI (by omega)).mpr hn, ?_⟩⟩
  rintro _ rfl
  refine ⟨ic_0 hl, ic_0 hl, ?_⟩
  intro w2 e2
  rw [rd_i (show l ≠ l + 1 by omega), hc.2.1, nI_1 n] at e2
  rw [s_Vn]
  refine h w2 (by rw [e2]; exact (fr.wr (by simp [aEm])).put (by simp [aEm])) ⟨by omega, by rw [e2, rd_s], fun k hk => ?_⟩
  by_cases q : k = n
  · rw [q, up_s, e2, rd_i (by omega), rd_s, hx]
  · rw [up_n q, e2, rd_i (by omega), rd_j q]
    exact hc.2.2 k (by omega)
theorem K_setPlain {d l : Nat} {X : s_Xo} {w : q_Sm} {Q : q_Sm → Prop} (hl : l = 36 ∨ l = 40) (h : ∀ u, fr (aEm l) w u → cL l plC 5 u → Q u) : s_EvV (d + 2) 0 mX5_setPlain w [.ref l] Q X := by
  apply eX5_setPlain
  unfold vX5_setPlain_0
  refine ⟨ic_0 hl, ?_⟩
  intro w1 e1
  have f1 : fr (aEm l) w w1 := by rw [e1]; exact fr.wr (by simp [aEm])
  refine ⟨ic_0 hl, K_emit0 (d := d) (c := 1000) (n := 0) (C := fun _ => 0) hl (by decide) (by omega) ⟨by omega, by rw [e1, rd_s]; rfl, fun k hk => absurd hk (by omega)⟩ (fun u3 f3 c3 => ⟨ic_0 hl, K_emit0 (d := d) (c := 1001) hl (by decide) (by omega) c3 (fun u5 f5 c5 => ⟨ic_0 hl, K_emit0 (d := d) (c := 2004) hl (by decide) (by omega) c5 (fun u7 f7 c7 => ⟨ic_0 hl, K_emit0 (d := d) (c := 16) hl (by decide) (by omega) c7 (fun u9 f9 c9 => ⟨ic_0 hl, K_emit0 (d := d) (c := 2005) hl (by decide) (by omega) c9 (fun u11 f11 c11 => ?_)⟩)⟩)⟩)⟩)⟩
  rw [s_Vn]
  refine h u11 (((((f1.trans f3).trans f5).trans f7).trans f9).trans f11) ⟨c11.2.1, fun k hk => ?_⟩
  have hp : ∀ k, k < 5 → up (up (up (up (up (fun _ => 0) 0 1000) (0 + 1) 1001) (0 + 1 + 1) 2004) (0 + 1 + 1 + 1) 16) (0 + 1 + 1 + 1 + 1) 2005 k = plC k := by decide
  rw [c11.2.2 k hk, hp k hk]
theorem K_startAnew {d o l b : Nat} {T : Tb} {β : Nat → Nat} {w : q_Sm} {Q : q_Sm → Prop} {X : s_Xo} (ho : o = 4 ∨ o = 20) (hl : l = 36 ∨ l = 40) (hb : b = 44 ∨ b = 48) (io : w.2.2.1 = o) (il : w.2.2.2.2.1 = l) (ib : w.2.2.2.2.2.2.1 = b) (ht : tb T) (hT : cT o T β w) (h75 : w.2.1 75 0 = 0)
    (h : ∀ u, u.2.2 = w.2.2 → u.2.1 75 0 = 0 → (∀ i j, aEm l i j = false → ¬ (i = b ∧ j = 0) → ¬ (i = 58 ∧ j = 1) → ¬ (i = 1 ∧ (j = 11 ∨ j = 12)) → aR 56 i j = false → i ≠ 76 → ¬ (i = 73 ∧ j = 3) → u.1 i j = w.1 i j) → KE o l T β plC 5 u → u.1 b 0 = nI 0 → u.1 58 1 = nI 0 → u.1 1 11 = nI 0 → u.1 1 12 = nI 0 → cR 57 (s0 T) u → mt T u → Q u) : s_EvV (d + 5) 0 mX11_startAnew w [.ref 1] Q X := by
  apply eX11_startAnew
  unfold vX11_startAnew_0
  rw [il]
  refine ⟨ic_0 hl, K_setPlain (d := d + 2) hl (fun u2 f2 c2 => ?_)⟩
  have ib2 : u2.2.2.2.2.2.2.1 = b := by rw [f2.1]; exact ib
  rw [ib2]
  refine ⟨id_0 hb, ?_⟩
  apply eX1_clear
  unfold vX1_clear_0
  refine ⟨id_0 hb, ?_⟩
  intro w1 e1
  rw [s_Vn]
  apply eX8_clear
  unfold vX8_clear_0
  refine ⟨(ie_0 (Or.inl rfl)).1, ?_⟩
  intro w2 e2
  rw [s_Vn]
  intro w7 e7 w8 e8
  have g8 : ∀ i j, ¬ (i = b ∧ j = 0) → ¬ (i = 58 ∧ j = 1) → ¬ (i = 1 ∧ (j = 11 ∨ j = 12)) → w8.1 i j = u2.1 i j := fun i j y1 y2 y3 => by
    rw [e8, rd_ne (by omega), e7, rd_ne (by omega), e2, rd_ne (by omega), e1, rd_ne (by omega)]
  have cb : w8.1 b 0 = nI 0 := by rw [e8, rd_ne (by omega), e7, rd_ne (by omega), e2, rd_ne (by omega), e1, rd_s]; rfl
  have c58 : w8.1 58 1 = nI 0 := by rw [e8, rd_ne (by omega), e7, rd_ne (by omega), e2, rd_s]; rfl
  have c11 : w8.1 1 11 = nI 0 := by rw [e8, rd_ne (by omega), e7, rd_s]; rfl
  have c12 : w8.1 1 12 = nI 0 := by rw [e8, rd_s]; rfl
  have i8 : w8.2 = w.2 := by rw [e8, e7, e2, e1]; exact f2.1
  clear e1 e2 e7 e8
  have nE : ∀ i j, o ≤ i → i ≤ o + 15 → aEm l i j = false := fun i j y1 y2 => by simp [aEm]; omega
  have hE8 : KE o l T β plC 5 w8 := by
    refine ⟨ho, hl, ht, hT.eq (fun i j y1 y2 => ?_), pl_lwf, ?_, fun k hk => ?_⟩
    · rw [g8 i j (by omega) (by omega) (by omega), f2.2 i j (nE i j y2 y1)]
    · rw [g8 l 1 (by omega) (by omega) (by omega)]; exact c2.1
    · rw [g8 (l + 1) k (by omega) (by omega) (by omega)]; exact c2.2 k hk
  rw [show w8.2.2.1 = o by rw [i8]; exact io]
  refine K_begin (d := d + 1) hE8 (fun u10 f10 r10 => ?_)
  rw [show u10.2.2.1 = o by rw [f10.1, i8]; exact io]
  have hE10 := hE8.f f10 (aR_lo (Or.inl rfl))
  refine K_match (d := d) hE10 (by rw [f10.1, i8]; exact h75) (fun u12 i12 z12 g12 m12 => ?_)
  rw [s_Vn]
  have na : ∀ i j, i ≠ 57 → i ≠ 38 → i ≠ 39 → i ≠ 42 → i ≠ 43 → aR 56 i j = false := fun i j y1 y2 y3 y4 y5 => by simp [aR, aL, y1, y2, y3, y4, y5]
  refine h u12 (by rw [i12, f10.1, i8]) z12 (fun i j y1 y2 y3 y4 y5 y6 y7 => ?_) (hE10.eq (fun i j y => g12 i j (by omega) (by omega))) ?_ ?_ ?_ ?_ (r10.eq (fun j => g12 57 j (by omega) (by omega))) m12
  · rw [g12 i j y6 y7, f10.2 i j y5, g8 i j y2 y3 y4, f2.2 i j y1]
  · rw [g12 b 0 (by omega) (by omega), f10.2 b 0 (na _ _ (by omega) (by omega) (by omega) (by omega) (by omega))]; exact cb
  · rw [g12 58 1 (by omega) (by omega), f10.2 58 1 (na _ _ (by omega) (by omega) (by omega) (by omega) (by omega))]; exact c58
  · rw [g12 1 11 (by omega) (by omega), f10.2 1 11 (na _ _ (by omega) (by omega) (by omega) (by omega) (by omega))]; exact c11
  · rw [g12 1 12 (by omega) (by omega), f10.2 1 12 (na _ _ (by omega) (by omega) (by omega) (by omega) (by omega))]; exact c12
theorem R_sets {d : Nat} {T : Tb} {w : q_Sm} {Q : q_Sm → Prop} {X : s_Xo} (ht : tb T) (hD : rD T w)
    (h : ∀ u, u.2 = w.2 → (∀ i j, ¬ (i = 79 ∧ (29 ≤ j ∧ j ≤ 33 ∨ j = 40 ∨ j = 45 ∨ j = 46 ∨ j = 55 ∨ j = 66)) → ¬ (89 ≤ i ∧ i ≤ 95) → i ≠ 104 → u.1 i j = w.1 i j) → rT T u → u.1 79 40 = nI 0 → u.1 79 55 = nI 0 → u.1 79 45 = nI 0 → u.1 79 66 = nI 0 → u.1 79 46 = nI 0 → rR 104 (s0 T) u → Q u) : s_EvV (d + 2) 0 mX12_sets w [.ref 79] Q X := by
  obtain ⟨t0', t1, t2, t3, t4⟩ := id ht.1
  obtain ⟨⟨d0, d1, d2, d3, d4⟩, b0, b1, b2, b3, b4, b5, b6⟩ := hD
  apply eX12_sets
  unfold vX12_sets_0
  intro w1 e1 w2 e2 w3 e3 w4 e4 w5 e5
  have g5 : ∀ i j, ¬ (i = 79 ∧ 29 ≤ j ∧ j ≤ 33) → w5.1 i j = w.1 i j := fun i j q => by
    rw [e5, rd_ne (by omega), e4, rd_ne (by omega), e3, rd_ne (by omega), e2, rd_ne (by omega), e1, rd_ne (by omega)]
  have i5 : w5.2 = w.2 := by rw [e5, e4, e3, e2, e1]; rfl
  have c0 : w5.1 79 29 = nI (T 7 0) := by rw [e5, rd_j (by decide), e4, rd_j (by decide), e3, rd_j (by decide), e2, rd_j (by decide), e1, rd_s]; exact d0
  have c1 : w5.1 79 30 = nI (T 7 1) := by rw [e5, rd_j (by decide), e4, rd_j (by decide), e3, rd_j (by decide), e2, rd_s, e1, rd_j (by decide)]; exact d1
  have c2 : w5.1 79 31 = nI (T 7 2) := by rw [e5, rd_j (by decide), e4, rd_j (by decide), e3, rd_s, e2, rd_j (by decide), e1, rd_j (by decide)]; exact d2
  have c3 : w5.1 79 32 = nI (T 7 3) := by rw [e5, rd_j (by decide), e4, rd_s, e3, rd_j (by decide), e2, rd_j (by decide), e1, rd_j (by decide)]; exact d3
  have c4 : w5.1 79 33 = nI (T 7 4) := by rw [e5, rd_s, e4, rd_j (by decide), e3, rd_j (by decide), e2, rd_j (by decide), e1, rd_j (by decide)]; exact d4
  clear e1 e2 e3 e4 e5
  refine r_copies (d := d) (m := 12) (q_id_of rfl) (q_id_of rfl) (by decide) (by decide) (by decide) (by decide) (fun u7 k7 _ f7 => ?_)
  refine r_copies (d := d) (m := 50) (q_id_of rfl) (q_id_of rfl) (by decide) (by decide) (by decide) (by decide) (fun u9 k9 _ f9 => ?_)
  refine r_copies (d := d) (m := 48) (q_id_of rfl) (q_id_of rfl) (by decide) (by decide) (by decide) (by decide) (fun u11 k11 _ f11 => ?_)
  refine r_copies (d := d) (m := 20) (q_id_of rfl) (q_id_of rfl) (by decide) (by decide) (by decide) (by decide) (fun u13 k13 _ f13 => ?_)
  refine r_copies (d := d) (m := 4) (q_id_of rfl) (q_id_of rfl) (by decide) (by decide) (by decide) (by decide) (fun u15 k15 _ f15 => ?_)
  refine r_copies (d := d) (m := 18) (q_id_of rfl) (q_id_of rfl) (by decide) (by decide) (by decide) (by decide) (fun u17 k17 _ f17 => ?_)
  refine r_copies (d := d) (m := 36) (q_id_of rfl) (q_id_of rfl) (by decide) (by decide) (by decide) (by decide) (fun u19 k19 _ f19 => ?_)
  have gA : ∀ i j, ¬ (89 ≤ i ∧ i ≤ 95) → u19.1 i j = w5.1 i j := fun i j q => by
    rw [f19.2 i j (by simp; omega), f17.2 i j (by simp; omega), f15.2 i j (by simp; omega), f13.2 i j (by simp; omega), f11.2 i j (by simp; omega), f9.2 i j (by simp; omega), f7.2 i j (by simp; omega)]
  have h89 : ∀ k, k < 12 → u19.1 89 k = w.1 82 k := fun k hk => by
    rw [f19.2 89 k rfl, f17.2 89 k rfl, f15.2 89 k rfl, f13.2 89 k rfl, f11.2 89 k rfl, f9.2 89 k rfl, k7 k hk, g5 82 k (by omega)]
  have h90 : ∀ k, k < 50 → u19.1 90 k = w.1 83 k := fun k hk => by
    rw [f19.2 90 k rfl, f17.2 90 k rfl, f15.2 90 k rfl, f13.2 90 k rfl, f11.2 90 k rfl, k9 k hk, f7.2 83 k rfl, g5 83 k (by omega)]
  have h91 : ∀ k, k < 48 → u19.1 91 k = w.1 84 k := fun k hk => by
    rw [f19.2 91 k rfl, f17.2 91 k rfl, f15.2 91 k rfl, f13.2 91 k rfl, k11 k hk, f9.2 84 k rfl, f7.2 84 k rfl, g5 84 k (by omega)]
  have h92 : ∀ k, k < 20 → u19.1 92 k = w.1 85 k := fun k hk => by
    rw [f19.2 92 k rfl, f17.2 92 k rfl, f15.2 92 k rfl, k13 k hk, f11.2 85 k rfl, f9.2 85 k rfl, f7.2 85 k rfl, g5 85 k (by omega)]
  have h93 : ∀ k, k < 4 → u19.1 93 k = w.1 86 k := fun k hk => by
    rw [f19.2 93 k rfl, f17.2 93 k rfl, k15 k hk, f13.2 86 k rfl, f11.2 86 k rfl, f9.2 86 k rfl, f7.2 86 k rfl, g5 86 k (by omega)]
  have h94 : ∀ k, k < 18 → u19.1 94 k = w.1 87 k := fun k hk => by
    rw [f19.2 94 k rfl, k17 k hk, f15.2 87 k rfl, f13.2 87 k rfl, f11.2 87 k rfl, f9.2 87 k rfl, f7.2 87 k rfl, g5 87 k (by omega)]
  have h95 : ∀ k, k < 36 → u19.1 95 k = w.1 88 k := fun k hk => by
    rw [k19 k hk, f17.2 88 k rfl, f15.2 88 k rfl, f13.2 88 k rfl, f11.2 88 k rfl, f9.2 88 k rfl, f7.2 88 k rfl, g5 88 k (by omega)]
  have iA : u19.2 = w.2 := by rw [f19.1, f17.1, f15.1, f13.1, f11.1, f9.1, f7.1, i5]
  intro w20 e20 w21 e21 w22 e22 w23 e23 w24 e24
  have gB : ∀ i j, ¬ (i = 79 ∧ (j = 40 ∨ j = 45 ∨ j = 46 ∨ j = 55 ∨ j = 66)) → w24.1 i j = u19.1 i j := fun i j q => by
    rw [e24, rd_ne (by omega), e23, rd_ne (by omega), e22, rd_ne (by omega), e21, rd_ne (by omega), e20, rd_ne (by omega)]
  have x40 : w24.1 79 40 = nI 0 := by rw [e24, rd_j (by decide), e23, rd_j (by decide), e22, rd_j (by decide), e21, rd_j (by decide), e20, rd_s]; rfl
  have x55 : w24.1 79 55 = nI 0 := by rw [e24, rd_j (by decide), e23, rd_j (by decide), e22, rd_j (by decide), e21, rd_s]; rfl
  have x45 : w24.1 79 45 = nI 0 := by rw [e24, rd_j (by decide), e23, rd_j (by decide), e22, rd_s]; rfl
  have x66 : w24.1 79 66 = nI 0 := by rw [e24, rd_j (by decide), e23, rd_s]; rfl
  have x46 : w24.1 79 46 = nI 0 := by rw [e24, rd_s]; rfl
  have iB : w24.2 = w.2 := by rw [e24, e23, e22, e21, e20]; exact iA
  clear e20 e21 e22 e23 e24
  have hT : rT T w24 := by
    refine ⟨⟨?_, ?_, ?_, ?_, ?_⟩, fun k hk => ?_, fun k hk => ?_, fun k hk => ?_, fun k hk => ?_, fun k hk => ?_, fun k hk => ?_, fun k hk => ?_⟩
    · rw [gB _ _ (by omega), gA _ _ (by omega)]; exact c0
    · rw [gB _ _ (by omega), gA _ _ (by omega)]; exact c1
    · rw [gB _ _ (by omega), gA _ _ (by omega)]; exact c2
    · rw [gB _ _ (by omega), gA _ _ (by omega)]; exact c3
    · rw [gB _ _ (by omega), gA _ _ (by omega)]; exact c4
    · rw [gB _ _ (by omega), h89 k (by omega)]; exact b0 k hk
    · rw [gB _ _ (by omega), h90 k (by omega)]; exact b1 k hk
    · rw [gB _ _ (by omega), h91 k (by omega)]; exact b2 k hk
    · rw [gB _ _ (by omega), h92 k (by omega)]; exact b3 k hk
    · rw [gB _ _ (by omega), h93 k (by omega)]; exact b4 k hk
    · rw [gB _ _ (by omega), h94 k (by omega)]; exact b5 k hk
    · rw [gB _ _ (by omega), h95 k (by omega)]; exact b6 k hk
  have fin : ∀ u, fr (fun i _ => i == 104) w24 u → rR 104 (s0 T) u → Q u := fun u f r => by
    refine h u (by rw [f.1, iB]) (fun i j q1 q2 q3 => ?_) (hT.eq (fun i j q => f.2 i j (by simp; omega))) ?_ ?_ ?_ ?_ ?_ r
    · rw [f.2 i j (by simp; omega), gB i j (by omega), gA i j q2, g5 i j (by omega)]
    · rw [f.2 _ _ rfl]; exact x40
    · rw [f.2 _ _ rfl]; exact x55
    · rw [f.2 _ _ rfl]; exact x45
    · rw [f.2 _ _ rfl]; exact x66
    · rw [f.2 _ _ rfl]; exact x46
  have L3 : ∀ k, k ≤ 4 → ∀ u, fr (fun i _ => i == 104) w24 u → rR 104 (ltS T (stS T (T 7 1)) 0 k) u → s_Ex (d + 2) 0 mX12_sets 236 [some (.ref 79), some (.int (nI k))] [] u (s_V Q) X := by
    refine n_down ?_ ?_
    · intro u f r
      apply xX12_sets_236
      unfold vX12_sets_236
      refine ⟨fun _ => ?_, fun z => absurd (show nI 4 ≤ nI 4 from nI_le (by omega) (by omega)) z⟩
      rw [s_Vn]
      exact fin u f r
    · intro k hk ih u f r
      apply xX12_sets_236
      unfold vX12_sets_236
      refine ⟨fun z => absurd (show nI 4 ≤ nI k from z) (nI_ge hk (by omega)), fun _ => cI (r_lightOf (d := d) (e := 0) ht (hT.eq (fun i j q => f.2 i j (by simp; omega))) (by omega) hk) ?_⟩
      rintro _ _ ⟨rfl, rfl⟩
      have a : (50 : Int32) + nI k = nI (50 + k) := by rw [show (50 : Int32) = nI 50 from rfl, nI_add]
      rw [a, nI_clamp (by omega), nI_1 k]
      refine ⟨(vp_nI (by omega)).mpr (by omega), ?_⟩
      rintro _ rfl
      exact ih _ (f.put rfl) r.put
  have L2 : ∀ k, k ≤ T 7 1 → ∀ u, fr (fun i _ => i == 104) w24 u → rR 104 (stS T k) u → s_Ex (d + 2) 0 mX12_sets 185 [some (.ref 79), some (.int (nI k))] [] u (s_V Q) X := by
    refine n_down ?_ ?_
    · intro u f r
      have hTu : rT T u := hT.eq (fun i j q => f.2 i j (by simp; omega))
      apply xX12_sets_185
      unfold vX12_sets_185
      rw [hTu.1.2.1]
      refine ⟨fun _ => L3 0 (by omega) u f r, fun z => absurd (nI_le (Nat.le_refl _) (by omega)) z⟩
    · intro k hk ih u f r
      have hTu : rT T u := hT.eq (fun i j q => f.2 i j (by simp; omega))
      apply xX12_sets_185
      unfold vX12_sets_185
      have a1 : (5 : Int32) * nI k = nI (5 * k) := by rw [show (5 : Int32) = nI 5 from rfl, pk_mul]
      have a2 : nI (5 * k) + 2 = nI (5 * k + 2) := by rw [show (2 : Int32) = nI 2 from rfl, nI_add]
      have a3 : (0 : Int32) + nI k = nI k := by rw [show (0 : Int32) = nI 0 from rfl, nI_add, Nat.zero_add]
      have a4 : (10 : Int32) + nI k = nI (10 + k) := by rw [show (10 : Int32) = nI 10 from rfl, nI_add]
      rw [hTu.1.2.1, a1, a2, a3, a4, nI_clamp (by omega), nI_clamp (by omega), nI_clamp (by omega), nI_clamp (by omega), nI_1 k]
      refine ⟨fun z => absurd z (nI_ge hk (by omega)), fun _ => ⟨(vp_nI (by omega)).mpr (by omega), (vp_nI (by omega)).mpr (by omega), ?_⟩⟩
      intro w27 e27
      refine ⟨(vp_nI (by omega)).mpr (by omega), (vp_nI (by omega)).mpr (by omega), ?_⟩
      intro w28 e28
      have e28 : w28 = q_wI (q_wI u 104 k (nI (T 1 (5 * k + 2)))) 104 (10 + k) (nI (T 1 (5 * k))) := by
        have y1 : u.1 90 (5 * k + 2) = nI (T 1 (5 * k + 2)) := hTu.2.2.1 _ (by omega)
        have y2 : u.1 90 (5 * k) = nI (T 1 (5 * k)) := hTu.2.2.1 _ (by omega)
        rw [e28, e27, rd_i (by decide), y1, y2]
      rw [e28]
      refine ih _ ((f.put rfl).put rfl) ?_
      rw [← stS_up (by omega)]
      exact r.put.put
  have L1 : ∀ k, k ≤ 63 → ∀ u, fr (fun i _ => i == 104) w24 u → (∀ j, j < k → u.1 104 j = nI 0) → s_Ex (d + 2) 0 mX12_sets 164 [some (.ref 79), some (.int (nI k))] [] u (s_V Q) X := by
    refine n_down ?_ ?_
    · intro u f c
      apply xX12_sets_164
      unfold vX12_sets_164
      refine ⟨fun _ => L2 0 (by omega) u f (fun j hj => by rw [stS_0]; exact c j hj), fun z => absurd (show nI 63 ≤ nI 63 from nI_le (by omega) (by omega)) z⟩
    · intro k hk ih u f c
      apply xX12_sets_164
      unfold vX12_sets_164
      rw [nI_clamp (by omega), nI_1 k]
      refine ⟨fun z => absurd (show nI 63 ≤ nI k from z) (nI_ge hk (by omega)), fun _ => ⟨(vp_nI (by omega)).mpr hk, ?_⟩⟩
      intro w2 e2
      refine ih w2 (by rw [e2]; exact f.put rfl) (fun j hj => ?_)
      by_cases q : j = k
      · rw [q, e2, rd_s]; rfl
      · rw [e2, rd_j q]; exact c j (by omega)
  exact L1 0 (by omega) w24 (fr.refl _ _) (fun j hj => absurd hj (by omega))
theorem R_coastEnd0 {d : Nat} {y : Nat × Nat} {X : s_Xo} {u : q_Sm} {Q : Int32 → q_Sm → Prop} (hf : fR (some y) u) (h : ∀ z, z = q_wI u 79 8 (nI y.2) → Q (nI y.1 - 10) z) : s_Ex (d + 3) 0 mX12_coast 329 [some (.ref 79), none, none, none, none, none] [] u (s_I Q) X := by
  apply xX12_coast_329
  unfold vX12_coast_329
  refine R_result1 (d := d) hf (fun z => by simp at z) (fun k p e z ez fz => ?_)
  simp at e
  subst e
  rw [fR_5 fz]
  refine ⟨fun _ => ?_, fun z => absurd (by simp) z⟩
  apply xX12_coast_350
  unfold vX12_coast_350
  rw [s_Ii]
  exact h z ez
theorem R_coastEnd1 {d : Nat} {T : Tb} {X : s_Xo} {u : q_Sm} {Q : Int32 → q_Sm → Prop} (ht : tb T) (hf : fR none u) (hD : rD T u)
    (h : ∀ z, z.2 = u.2 → (∀ i j, ¬ (i = 79 ∧ (j = 8 ∨ 29 ≤ j ∧ j ≤ 33 ∨ j = 40 ∨ j = 45 ∨ j = 46 ∨ j = 55 ∨ j = 66)) → ¬ (89 ≤ i ∧ i ≤ 95) → i ≠ 104 → z.1 i j = u.1 i j) → z.1 79 8 = oI none → rT T z → z.1 79 40 = nI 0 → z.1 79 55 = nI 0 → z.1 79 45 = nI 0 → z.1 79 66 = nI 0 → z.1 79 46 = nI 0 → rR 104 (s0 T) z → Q (nI (T 7 1)) z) : s_Ex (d + 3) 0 mX12_coast 329 [some (.ref 79), none, none, none, none, none] [] u (s_I Q) X := by
  apply xX12_coast_329
  unfold vX12_coast_329
  refine R_result1 (d := d) hf (fun _ z ez fz => ?_) (fun k p e => by simp at e)
  rw [fR_5 fz]
  refine ⟨fun q => absurd rfl q, fun _ => R_sets (d := d) ht (hD.g (fun i j q => by rw [ez, rd_ne (by omega)])) (fun z2 i2 g2 hT c40 c55 c45 c66 c46 r => ?_)⟩
  apply xX12_coast_350
  unfold vX12_coast_350
  rw [s_Ii, hD.1.2.1]
  refine h z2 (by rw [i2, ez]; rfl) (fun i j q1 q2 q3 => ?_) ?_ hT c40 c55 c45 c66 c46 r
  · rw [g2 i j (by omega) q2 q3, ez, rd_ne (by omega)]
  · rw [g2 79 8 (by omega) (by omega) (by omega), ez, rd_s]

