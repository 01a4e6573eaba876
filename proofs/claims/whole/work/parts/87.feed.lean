/-! the tape -/
def byI (x : Int32) (s : Nat) : Int32 := (x >>> (nI s &&& 31)) &&& 255
theorem by_n (x : Int32) (s : Nat) : ∃ y : Nat, y < 256 ∧ byI x s = nI y := pk_andE _ 8 rfl
theorem by_low (x : Int32) : (x &&& 255).toInt8 = x.toInt8 := by
  apply Int8.toBitVec_inj.1
  apply BitVec.eq_of_getLsbD_eq
  intro i hi
  have h2 : (255 : Int32).toBitVec.getLsbD i = true := by
    have : ∀ j : Fin 8, (255 : Int32).toBitVec.getLsbD j.val = true := by decide +kernel
    exact this ⟨i, hi⟩
  have h4 : (x &&& 255).toBitVec.getLsbD i = x.toBitVec.getLsbD i := by
    show (x.toBitVec &&& (255 : Int32).toBitVec).getLsbD i = _
    rw [BitVec.getLsbD_and, h2, Bool.and_true]
  have h3 : i < 32 := by omega
  first
    | (show (((x &&& 255).toBitVec).signExtend 8).getLsbD i = (x.toBitVec.signExtend 8).getLsbD i; rw [BitVec.getLsbD_signExtend, BitVec.getLsbD_signExtend, if_pos h3, if_pos h3, h4])
    | (show (((x &&& 255).toBitVec).setWidth 8).getLsbD i = (x.toBitVec.setWidth 8).getLsbD i; rw [BitVec.getLsbD_setWidth, BitVec.getLsbD_setWidth, h4])
    | (simp [hi, h3, h4]; done)
theorem by_sx (x : Int32) {s : Nat} (hs : s ≤ 24) : ((Int32.toUInt32 x >>> ((nI s).toUInt32 &&& Int32.toUInt32 31)).toInt32).toInt8 = (byI x s).toInt8 := by
  rw [← by_low ((Int32.toUInt32 x >>> ((nI s).toUInt32 &&& Int32.toUInt32 31)).toInt32)]
  unfold byI
  congr 1
  apply b_ext
  intro i hi
  rw [b_and, b_and, b_255]
  by_cases h : i < 8
  · rw [b_ushr s (by omega) x i, b_sshr s (by omega) x hi, if_pos (by omega)]
  · simp [h]
def aT (i j : Nat) : Bool := i == 3 || (i == 2 && j == 1)
theorem K_put {d f : Nat} {x : Int32} {w : q_Sm} {Q : q_Sm → Prop} {X : s_Xo} (hf : w.1 2 1 = nI f) (hf2 : f + 4 ≤ 600)
    (h : ∀ u, fr aT w u → u.1 2 1 = nI (f + 4) → (∀ k, k < 4 → u.1 3 (f + k) = (byI x (24 - 8 * k)).toInt8.toInt32) → (∀ k, k < f → u.1 3 k = w.1 3 k) → Q u) : s_EvV (d + 1) 0 mX10_put w [.ref 2, .int x] Q X := by
  have loop : ∀ a, a ≤ 4 → ∀ u y, (a < 4 → y = nI (24 - 8 * a)) → (a = 4 → y < 0) → fr aT w u → u.1 2 1 = nI (f + a) → (∀ k, k < a → u.1 3 (f + k) = (byI x (24 - 8 * k)).toInt8.toInt32) → (∀ k, k < f → u.1 3 k = w.1 3 k) → s_Ex (d + 1) 0 mX10_put 3 [some (.ref 2), some (.int x), some (.int y)] [] u (s_V Q) X := by
    refine n_down ?_ ?_
    · intro u y _ hy hu h1 h2 h3
      apply xX10_put_3
      unfold vX10_put_3
      exact ⟨fun _ => ⟨rfl, h u hu h1 h2 h3⟩, fun z => absurd (hy rfl) z⟩
    · intro a ha ih u y hy _ hu h1 h2 h3
      have hy := hy ha
      subst hy
      apply xX10_put_3
      unfold vX10_put_3
      rw [h1, nI_clamp (by omega)]
      refine ⟨fun z => absurd z (nI_pos (by omega)), fun _ => ⟨fun z => absurd (show nI 600 ≤ nI (f + a) from z) (nI_ge (by omega) (by omega)), fun _ => ⟨(vp_nI (by omega)).mpr (by omega), ?_⟩⟩⟩
      rintro _ rfl _ rfl
      rw [rd_i (by omega), h1, nI_1]
      refine ih _ _ (fun q => ?_) (fun q => ?_) ((hu.put rfl).put rfl) rd_s (fun k hk => ?_) (fun k hk => ?_)
      · obtain rfl | rfl | rfl : a = 0 ∨ a = 1 ∨ a = 2 := by omega
        all_goals rfl
      · obtain rfl : a = 3 := by omega
        decide
      · rw [rd_i (by omega), rd_e, if_pos rfl]
        split
        · rename_i e
          rw [show k = a by omega, show (if 13 = 13 then (.byte : FieldType) else .boolean) = .byte from rfl, pk_vb, by_sx x (by omega)]
        · exact h2 k (by omega)
      · rw [rd_i (by omega), rd_j (by omega)]
        exact h3 k hk
  apply eX10_put
  unfold vX10_put_0
  exact loop 0 (by omega) w 24 (fun _ => rfl) (fun q => by omega) (fr.refl _ _) hf (fun k hk => absurd hk (Nat.not_lt_zero _)) (fun _ _ => rfl)
def sel (a b c e f : Int32) (t : Nat) : Int32 := if t < 4 then a else if t < 8 then b else if t < 12 then c else if t < 16 then e else f
def byT (a b c e f : Int32) (t : Nat) : Int32 := byI (sel a b c e f t) (24 - 8 * (t % 4))
theorem ag_feed (w : q_Sm) (hI : Inv w) (x1 x2 x3 x4 x5 : Int32) : ag_D Inv 999 mX11_feed mX12_feed w [.int x1, .int x2, .int x3, .int x4, .int x5] := by
  obtain ⟨T, β, C, n, S, B, m, hC, hPst, hImg, hTp, hCnt⟩ := id hI
  obtain ⟨nt, Y, hnt, t1, t2, t3⟩ := id hTp
  have e20 : nI nt + 20 = nI (nt + 20) := by rw [show (20 : Int32) = nI 20 from rfl, nI_add]
  by_cases h0 : nt + 20 ≤ 600
  rotate_left
  · refine agD_ok (-1) hI (fun Q X hQ => ?_) (fun u hu Q X hQ => ?_)
    · apply eX11_feed
      unfold vX11_feed_0
      apply eX10_size
      unfold vX10_size_0
      rw [t1, s_Ii, e20]
      exact ⟨fun z => absurd ((nI_leI (b := 600) (by omega) (by omega)).mp z) h0, fun _ => ⟨_, rfl, hQ w (fr.refl _ _)⟩⟩
    · apply eX12_feed
      unfold vX12_feed_0
      rintro _ rfl
      rw [rd_j (by omega), hu.2 _ _ rfl, t2, e20]
      exact ⟨fun z => absurd ((nI_leI (b := 600) (by omega) (by omega)).mp z) h0, fun _ => ⟨_, rfl, hQ _ scr_t⟩⟩
  show s_EvI 999 0 mX11_feed w [.ref 1, .int x1, .int x2, .int x3, .int x4, .int x5] _ X0
  apply eX11_feed
  unfold vX11_feed_0
  apply eX10_size
  unfold vX10_size_0
  rw [t1, s_Ii, e20]
  refine ⟨fun _ => ?_, fun z => absurd (show nI (nt + 20) ≤ nI 600 from nI_le h0 (by omega)) z⟩
  refine K_put t1 (by omega) (fun u1 hu1 a1 b1 c1 => ?_)
  refine K_put a1 (by omega) (fun u2 hu2 a2 b2 c2 => ?_)
  refine K_put a2 (by omega) (fun u3 hu3 a3 b3 c3 => ?_)
  refine K_put a3 (by omega) (fun u4 hu4 a4 b4 c4 => ?_)
  refine K_put a4 (by omega) (fun u5 hu5 a5 b5 c5 => ?_)
  apply eX10_size
  unfold vX10_size_0
  rw [a5]
  refine ⟨_, rfl, _, rfl, ?_⟩
  have hu := (((hu1.trans hu2).trans hu3).trans hu4).trans hu5
  have old : ∀ k, k < nt → u5.1 3 k = w.1 3 k := fun k hk => by rw [c5 k (by omega), c4 k (by omega), c3 k (by omega), c2 k (by omega), c1 k hk]
  have new : ∀ t, t < 20 → u5.1 3 (nt + t) = (byT x1 x2 x3 x4 x5 t).toInt8.toInt32 := by
    intro t ht
    unfold byT sel
    by_cases q1 : t < 4
    · rw [if_pos q1, c5 _ (by omega), c4 _ (by omega), c3 _ (by omega), c2 _ (by omega), b1 t q1, show t % 4 = t by omega]
    · rw [if_neg q1]
      by_cases q2 : t < 8
      · rw [if_pos q2, c5 _ (by omega), c4 _ (by omega), c3 _ (by omega), show nt + t = nt + 4 + (t - 4) by omega, b2 (t - 4) (by omega), show t % 4 = t - 4 by omega]
      · rw [if_neg q2]
        by_cases q3 : t < 12
        · rw [if_pos q3, c5 _ (by omega), c4 _ (by omega), show nt + t = nt + 4 + 4 + (t - 8) by omega, b3 (t - 8) (by omega), show t % 4 = t - 8 by omega]
        · rw [if_neg q3]
          by_cases q4 : t < 16
          · rw [if_pos q4, c5 _ (by omega), show nt + t = nt + 4 + 4 + 4 + (t - 12) by omega, b4 (t - 12) (by omega), show t % 4 = t - 12 by omega]
          · rw [if_neg q4, show nt + t = nt + 4 + 4 + 4 + 4 + (t - 16) by omega, b5 (t - 16) (by omega), show t % 4 = t - 16 by omega]
  apply eX12_feed
  unfold vX12_feed_0
  rintro _ rfl
  have e2 : (q_wI u5 79 0 0).1 79 2 = nI nt := by rw [rd_j (by omega), hu.2 _ _ rfl, t2]
  rw [e2, e20]
  refine ⟨fun _ => ?_, fun z => absurd (show nI (nt + 20) ≤ nI 600 from nI_le h0 (by omega)) z⟩
  have loop : ∀ t, t ≤ 20 → ∀ u, fr (fun i j => i == 81 || (i == 79 && (j == 0 || j == 2))) u5 u → u.1 79 2 = nI (nt + t) → (∀ k, k < t → u.1 81 (nt + k) = byT x1 x2 x3 x4 x5 k) → (∀ k, k < nt → u.1 81 k = w.1 81 k) → s_Ex 999 0 mX12_feed 23 [some (.ref 79), some (.int x1), some (.int x2), some (.int x3), some (.int x4), some (.int x5), some (.int (nI t)), none] [] u (s_I (fun v2 u2 => nI (nt + 4 + 4 + 4 + 4 + 4) = v2 ∧ Inv u2)) X0 := by
    refine n_down ?_ ?_
    · intro u hf g1 g2 g3
      apply xX12_feed_23
      unfold vX12_feed_23
      refine ⟨fun _ => ⟨_, rfl, ?_, ?_⟩, fun z => absurd (show nI 20 ≤ nI 20 from nI_le (by omega) (by omega)) z⟩
      · rw [g1]
      have gg : ∀ i j, i ≠ 3 → ¬ (i = 2 ∧ j = 1) → i ≠ 81 → ¬ (i = 79 ∧ (j = 0 ∨ j = 2)) → u.1 i j = w.1 i j := by
        intro i j z1 z2 z3 z4
        rw [hf.2 _ _ (by simp <;> omega), hu.2 _ _ (by simp [aT] <;> omega)]
      have hid : u.2.2 = w.2.2 := by rw [hf.1, hu.1]
      refine ⟨T, β, C, n, S, B, m, ?_, hPst.eq (fun i j q => gg i j (by omega) (by omega) (by omega) (by omega)), hImg.eq (fun i j q => gg i j (by omega) (by omega) (by omega) (by omega)), ⟨nt + 20, fun k => if k < nt then Y k else (byT x1 x2 x3 x4 x5 (k - nt)).toNatClampNeg, h0, ?_, g1, fun k hk => ?_⟩, ?_⟩
      · obtain ⟨a1, a2, a3, a4, a5, a6, a7, a8⟩ := hC
        have ho := a2.1
        have hl := a2.2.1
        unfold Co ids
        rw [hid]
        refine ⟨a1, ⟨a2.1, a2.2.1, a2.2.2.1, a2.2.2.2.1.eq (fun i j q q2 => gg i j (by omega) (by omega) (by omega) (by omega)), a2.2.2.2.2.1, ?_, fun j hj => ?_⟩, a3.eq (fun i j q => gg i j (by omega) (by omega) (by omega) (by omega)), a4.eq (fun j => gg _ _ (by omega) (by omega) (by omega) (by omega)), a5.eq (fun j => gg _ _ (by omega) (by omega) (by omega) (by omega)), a6, a7.eq (fun i j q => gg i j (by omega) (by omega) (by omega) (by omega)), a8.eq hid (by have := a1.2.2; omega) (fun i j q => gg i j (by omega) (by omega) (by omega) (by omega))⟩
        · rw [gg _ _ (by omega) (by omega) (by omega) (by omega)]; exact a2.2.2.2.2.2.1
        · rw [gg _ _ (by omega) (by omega) (by omega) (by omega)]; exact a2.2.2.2.2.2.2 j hj
      · rw [hf.2 _ _ rfl, a5]
      · by_cases q : k < nt
        · simp only [q, if_true]
          rw [g3 k q, hf.2 _ _ rfl, old k q]
          exact t3 k q
        · simp only [q, if_false]
          obtain ⟨y, hy, ey⟩ := by_n (sel x1 x2 x3 x4 x5 (k - nt)) (24 - 8 * ((k - nt) % 4))
          have ey : byT x1 x2 x3 x4 x5 (k - nt) = nI y := ey
          have e9 := g2 (k - nt) (by omega)
          have e10 := new (k - nt) (by omega)
          rw [show nt + (k - nt) = k by omega] at e9 e10
          rw [e9, hf.2 _ _ rfl, e10, ey, nI_clamp (by omega)]
          exact ⟨hy, rfl, rfl⟩
      · obtain ⟨d1, d2, d3, d4⟩ := hCnt
        unfold cnt
        rw [gg 1 13 (by omega) (by omega) (by omega) (by omega), gg 1 14 (by omega) (by omega) (by omega) (by omega), gg 80 0 (by omega) (by omega) (by omega) (by omega), gg 80 1 (by omega) (by omega) (by omega) (by omega), gg 2 6 (by omega) (by omega) (by omega) (by omega), gg 79 8 (by omega) (by omega) (by omega) (by omega), gg 1 12 (by omega) (by omega) (by omega) (by omega), gg 79 46 (by omega) (by omega) (by omega) (by omega)]
        exact ⟨d1, d2, d3, d4.1, by rw [hf.1, hu.1]; exact d4.2⟩
    · intro t ht ih u hf g1 g2 g3
      have em : (24 : Int32) - 8 * (nI t - nI t / 4 * 4) = nI (24 - 8 * (t % 4)) := by
        have h4 := pk_rem (a := t) (d := 4) (by omega) (by omega) (by omega)
        rw [show (4 : Int32) = nI 4 from rfl, h4, show (8 : Int32) = nI 8 from rfl, pk_mul, show (24 : Int32) = nI 24 from rfl, pk_sub (by omega)]
      have fin : ∀ x, x = sel x1 x2 x3 x4 x5 t → vp_in (u.1 79 2) 600 ∧ ∀ w_2 : q_Sm, w_2 = q_wI u 81 (Int32.toNatClampNeg (u.1 79 2)) ((x >>> (nI (24 - 8 * (t % 4)) &&& 31)) &&& 255) → ∀ w_3 : q_Sm, w_3 = q_wI w_2 79 2 (w_2.1 79 2 + 1) → s_Ex 999 0 mX12_feed 23 [some (.ref 79), some (.int x1), some (.int x2), some (.int x3), some (.int x4), some (.int x5), some (.int (nI t + 1)), none] [] w_3 (s_I (fun v2 u2 => nI (nt + 4 + 4 + 4 + 4 + 4) = v2 ∧ Inv u2)) X0 := by
        rintro _ rfl
        rw [g1, nI_clamp (by omega), nI_1]
        refine ⟨(vp_nI (by omega)).mpr (by omega), ?_⟩
        rintro _ rfl _ rfl
        rw [rd_i (by omega), g1, nI_1]
        refine ih _ ((hf.put (by simp)).put (by simp)) (by rw [rd_s]; rfl) (fun k hk => ?_) (fun k hk => ?_)
        · rw [rd_i (by omega), rd_e, if_pos rfl]
          split
          · rename_i e; rw [show k = t by omega]; rfl
          · exact g2 k (by omega)
        · rw [rd_i (by omega), rd_j (by omega)]
          exact g3 k hk
      apply xX12_feed_23
      unfold vX12_feed_23
      rw [em]
      have cv : ∀ c, c < 100 → (nI c ≤ nI t ↔ c ≤ t) := fun c hc => nI_leI (by omega) (by omega)
      have c4 : ((4 : Int32) ≤ nI t ↔ 4 ≤ t) := cv 4 (by omega)
      have c8 : ((8 : Int32) ≤ nI t ↔ 8 ≤ t) := cv 8 (by omega)
      have c12 : ((12 : Int32) ≤ nI t ↔ 12 ≤ t) := cv 12 (by omega)
      have c16 : ((16 : Int32) ≤ nI t ↔ 16 ≤ t) := cv 16 (by omega)
      have c20 : ((20 : Int32) ≤ nI t ↔ 20 ≤ t) := cv 20 (by omega)
      rw [c4, c8, c12, c16, c20]
      refine ⟨fun z => absurd z (by omega), fun _ => ⟨fun z4 => ⟨fun z8 => ⟨fun z12 => ⟨fun z16 => fin _ ?_, fun z16 => fin _ ?_⟩, fun z12 => fin _ ?_⟩, fun z8 => fin _ ?_⟩, fun z4 => fin _ ?_⟩⟩
      · unfold sel; rw [if_neg (by omega), if_neg (by omega), if_neg (by omega), if_neg (by omega)]
      · unfold sel; rw [if_neg (by omega), if_neg (by omega), if_neg (by omega), if_pos (by omega)]
      · unfold sel; rw [if_neg (by omega), if_neg (by omega), if_pos (by omega)]
      · unfold sel; rw [if_neg (by omega), if_pos (by omega)]
      · unfold sel; rw [if_pos (by omega)]
  refine loop 0 (by omega) _ (fr.wr (by simp)) (by rw [e2]; rfl) (fun k hk => absurd hk (Nat.not_lt_zero _)) (fun k hk => ?_)
  rw [rd_i (by omega), hu.2 _ _ rfl]
