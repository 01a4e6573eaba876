/-! the law's value, on both sides -/
def aL (i _j : Nat) : Bool := i == 38 || i == 39 || i == 42 || i == 43
def aV (i _j : Nat) : Bool := i == 100
theorem k_joined {d op : Nat} {a b : Int32} {w : q_Sm} {Q : Int32 → q_Sm → Prop} {X : s_Xo} (h1 : 2 ≤ op) (h2 : op ≤ 7) (h : Q (jn op a b) w) : s_EvI (d + 1) 0 mX5_joined w [.int (cc (2000 + op)), .int a, .int b] Q X := by
  apply eX5_joined
  unfold vX5_joined_0
  obtain rfl | rfl | rfl | rfl | rfl | rfl : op = 2 ∨ op = 3 ∨ op = 4 ∨ op = 5 ∨ op = 6 ∨ op = 7 := by omega
  all_goals simp only [s_Ii]
  all_goals refine ⟨fun q => ?_, fun q => ?_, fun q => ?_, fun q => ?_, fun q => ?_, fun q => ?_⟩
  all_goals first | (exfalso; revert q; decide) | skip
  · exact h
  · exact h
  · exact h
  · refine ⟨fun z => ⟨z, ?_⟩, fun z => ?_⟩
    · have e : jn 5 a b = a / b := by simp [jn, z]
      rw [← e]; exact h
    · have e : jn 5 a b = 0 := by
        have z2 : b = 0 := Decidable.not_not.mp z
        simp [jn, z2]
      rw [← e]; exact h
  · refine ⟨fun z => ?_, fun z => ?_⟩
    · have e : jn 6 a b = b := by simp [jn, Int32.not_lt.mpr z]
      rw [← e]; exact h
    · have e : jn 6 a b = a := by simp [jn, Int32.not_le.mp z]
      rw [← e]; exact h
  · refine ⟨fun z => ?_, fun z => ?_⟩
    · have e : jn 7 a b = b := by simp [jn, Int32.not_lt.mpr z]
      rw [← e]; exact h
    · have e : jn 7 a b = a := by simp [jn, Int32.not_le.mp z]
      rw [← e]; exact h
theorem r_both {d op : Nat} {a b : Int32} {w : q_Sm} {Q : Int32 → q_Sm → Prop} {X : s_Xo} (h1 : 2 ≤ op) (h2 : op ≤ 7) (h : Q (jn op a b) w) : s_EvI (d + 1) 0 mX12_both w [.int (nI op), .int a, .int b] Q X := by
  apply eX12_both
  unfold vX12_both_0
  obtain rfl | rfl | rfl | rfl | rfl | rfl : op = 2 ∨ op = 3 ∨ op = 4 ∨ op = 5 ∨ op = 6 ∨ op = 7 := by omega
  all_goals simp (disch := omega) only [s_Ii, L_0, L_1, L_2, L_3, L_4, L_5, L_6, nI_eq, Nat.reduceEqDiff, not_true_eq_false, not_false_eq_true, false_implies, true_implies, true_and, and_true]
  · exact h
  · exact h
  · exact h
  · refine ⟨fun z => ⟨z, ?_⟩, fun z => ?_⟩
    · have e : jn 5 a b = a / b := by simp [jn, show ¬ b = 0 from z]
      rw [← e]; exact h
    · have e : jn 5 a b = 0 := by
        have z2 : b = 0 := Decidable.not_not.mp z
        simp [jn, z2]
      rw [← L_0, ← e]; exact h
  · refine ⟨fun z => ?_, fun z => ?_⟩
    · have e : jn 6 a b = b := by simp [jn, Int32.not_lt.mpr z]
      rw [← e]; exact h
    · have e : jn 6 a b = a := by simp [jn, Int32.not_le.mp z]
      rw [← e]; exact h
  · refine ⟨fun z => ?_, fun z => ?_⟩
    · have e : jn 7 a b = a := by
        by_cases z2 : b < a
        · simp [jn, z2]
        · have : a = b := Int32.le_antisymm (Int32.not_lt.mp z2) z
          simp [jn, this]
      rw [← e]; exact h
    · have e : jn 7 a b = b := by simp [jn, Int32.not_lt.mpr (Int32.le_of_lt (Int32.not_le.mp z))]
      rw [← e]; exact h
theorem k_min {d : Nat} {a b : Int32} {w : q_Sm} {Q : Int32 → q_Sm → Prop} {X : s_Xo} (h : Q (if b < a then b else a) w) : s_EvI (d + 1) 0 mK_min w [.int a, .int b] Q X := by
  apply eK_min
  unfold vK_min_0
  simp only [s_Ii]
  by_cases z : b < a <;> simp [z] at h ⊢ <;> exact h
theorem k_max {d : Nat} {a b : Int32} {w : q_Sm} {Q : Int32 → q_Sm → Prop} {X : s_Xo} (h : Q (if a < b then b else a) w) : s_EvI (d + 1) 0 mK_max w [.int a, .int b] Q X := by
  apply eK_max
  unfold vK_max_0
  simp only [s_Ii]
  by_cases z : a < b <;> simp [z] at h ⊢ <;> exact h
theorem q_la {l : Nat} (h : l = 36 ∨ l = 40) : q_id 116 5 l ∧ q_id 116 14 (l + 1) ∧ q_id 116 14 (l + 2) ∧ q_id 116 14 (l + 3) ∧ (q_sh (l + 1)).2 = 150 ∧ (q_sh (l + 2)).2 = 7 ∧ (q_sh (l + 3)).2 = 40 := by
  rcases h with rfl | rfl
  · exact ⟨q_id_of rfl, q_id_of rfl, q_id_of rfl, q_id_of rfl, rfl, rfl, rfl⟩
  · exact ⟨q_id_of rfl, q_id_of rfl, q_id_of rfl, q_id_of rfl, rfl, rfl, rfl⟩
theorem clp_mm (v : Int32) : (if 0 < (if v < 99 then v else 99) then (if v < 99 then v else 99) else 0) = clp v := by
  unfold clp
  by_cases z1 : v < 0
  · have z2 : v < 99 := Int32.lt_trans z1 (by decide)
    rw [if_pos z2, if_pos z1, if_neg (fun q => absurd (Int32.lt_trans q z1) (by decide))]
  · by_cases z2 : v < 99
    · rw [if_pos z2, if_neg z1, if_neg (show ¬ 99 < v from fun q => absurd (Int32.lt_trans q z2) (by decide))]
      split
      · rfl
      · rename_i z3
        exact Int32.le_antisymm (Int32.not_lt.mp z1) (Int32.not_lt.mp z3)
    · rw [if_neg z2, if_pos (by decide), if_neg z1]
      split
      · rfl
      · rename_i z3
        exact Int32.le_antisymm (Int32.not_lt.mp z2) (Int32.not_lt.mp z3)
theorem clp_r (v : Int32) : (if 0 ≤ v then (if v ≤ 99 then v else 99) else 0) = clp v := by
  unfold clp
  by_cases z1 : v < 0
  · rw [if_pos z1, if_neg (Int32.not_le.mpr z1)]
  · rw [if_neg z1, if_pos (Int32.not_lt.mp z1)]
    by_cases z2 : v ≤ 99
    · rw [if_pos z2, if_neg (Int32.not_lt.mpr z2)]
    · rw [if_neg z2, if_pos (Int32.not_le.mp z2)]
theorem k_minN {d a b : Nat} {w : q_Sm} {Q : Int32 → q_Sm → Prop} {X : s_Xo} (ha : a < 2 ^ 31) (hb : b < 2 ^ 31) (h : Q (nI (min a b)) w) : s_EvI (d + 1) 0 mK_min w [.int (nI a), .int (nI b)] Q X := by
  apply k_min
  by_cases z : b < a
  · rw [if_pos (nI_lt z ha)]
    rw [Nat.min_eq_right (by omega)] at h
    exact h
  · rw [if_neg (nI_nlt (by omega) hb)]
    rw [Nat.min_eq_left (by omega)] at h
    exact h
theorem k_maxN {d a b : Nat} {w : q_Sm} {Q : Int32 → q_Sm → Prop} {X : s_Xo} (ha : a < 2 ^ 31) (hb : b < 2 ^ 31) (h : Q (nI (max a b)) w) : s_EvI (d + 1) 0 mK_max w [.int (nI a), .int (nI b)] Q X := by
  apply k_max
  by_cases z : a < b
  · rw [if_pos (nI_lt z hb)]
    rw [Nat.max_eq_right (by omega)] at h
    exact h
  · rw [if_neg (nI_nlt (by omega) ha)]
    rw [Nat.max_eq_left (by omega)] at h
    exact h
def f7 (x1 x2 x3 x4 x5 x6 x7 : Int32) (k : Nat) : Int32 := if k = 0 then x1 else if k = 1 then x2 else if k = 2 then x3 else if k = 3 then x4 else if k = 4 then x5 else if k = 5 then x6 else x7
theorem cc_pos {c : Nat} (h : c < 1000) : cc c = nI c := by simp [cc, h]
theorem cc_fact {c : Nat} (h : 1000 ≤ c) (h2 : c < 1007) : cc c < 0 ∧ ¬ cc c ≤ -8 ∧ -1 - cc c = nI (c - 1000) := by
  obtain rfl | rfl | rfl | rfl | rfl | rfl | rfl : c = 1000 ∨ c = 1001 ∨ c = 1002 ∨ c = 1003 ∨ c = 1004 ∨ c = 1005 ∨ c = 1006 := by omega
  all_goals decide
theorem cc_op {c : Nat} (h : 2002 ≤ c) (h2 : c ≤ 2007) : cc c < 0 ∧ cc c ≤ -8 := by
  obtain rfl | rfl | rfl | rfl | rfl | rfl : c = 2002 ∨ c = 2003 ∨ c = 2004 ∨ c = 2005 ∨ c = 2006 ∨ c = 2007 := by omega
  all_goals decide
theorem dp_le {C : Nat → Nat} {n : Nat} (h : lwf C n) {k : Nat} (hk : k ≤ n) : dp C k ≤ 40 := by
  cases k with
  | zero => exact Nat.zero_le _
  | succ k =>
    have := (h.2.1 k (by omega)).2
    unfold dp
    split <;> omega
theorem nI_m1 {n : Nat} (h : 0 < n) : nI n + -1 = nI (n - 1) := by
  obtain ⟨m, rfl⟩ : ∃ m, n = m + 1 := ⟨n - 1, by omega⟩
  exact pk_m1 m
theorem k_growth {d o l n : Nat} {T : Tb} {β C : Nat → Nat} {w : q_Sm} {x1 x2 x3 x4 x5 x6 x7 : Int32} {Q : Int32 → q_Sm → Prop} {X : s_Xo} (hE : KE o l T β C n w)
    (h : ∀ u, fr aL w u → Q (nI (gv C n (f7 x1 x2 x3 x4 x5 x6 x7))) u) : s_EvI (d + 2) 0 mX5_growth w [.ref l, .int x1, .int x2, .int x3, .int x4, .int x5, .int x6, .int x7] Q X := by
  obtain ⟨-, hl, -, -, hw, hn, hc⟩ := hE
  obtain ⟨q0, q1, q2, q3, s1, s2, s3⟩ := q_la hl
  have hA2 : ∀ j, aL (l + 2) j = true := fun j => by rcases hl with rfl | rfl <;> rfl
  have hA3 : ∀ j, aL (l + 3) j = true := fun j => by rcases hl with rfl | rfl <;> rfl
  have hB : ∀ j, aL l j = false := fun j => by rcases hl with rfl | rfl <;> rfl
  have hB1 : ∀ j, aL (l + 1) j = false := fun j => by rcases hl with rfl | rfl <;> rfl
  generalize hf : f7 x1 x2 x3 x4 x5 x6 x7 = f at h
  have loop : ∀ k, k ≤ n → ∀ u, fr aL w u → (∀ i, i < 7 → u.1 (l + 2) i = f i) → (∀ i, i < dp C k → u.1 (l + 3) i = stk C f k i) →
      s_Ex (d + 2) 0 mX5_growth 60 [some (.ref l), none, none, none, none, none, none, none, some (.int (nI (dp C k))), some (.int (nI k)), none] [] u (s_I Q) X := by
    refine n_down ?_ ?_
    · intro u hu hk hs
      apply xX5_growth_60
      unfold vX5_growth_60
      have e1 : u.1 l 1 = nI n := (hu.2 _ _ (hB _)).trans hn
      rw [e1, s3]
      refine ⟨q0, fun _ => ⟨q0, q3, vp_in_nI (n := 0) (by omega) (by omega), k_min (k_max ?_)⟩, fun z => absurd (nI_le (Nat.le_refl _) (by have := hw.1; omega)) z⟩
      have e2 := hs 0 hw.2.2
      rw [s_Ii, show Int32.toNatClampNeg 0 = 0 from rfl, e2]
      rw [show (if 0 < (if stk C f n 0 < 99 then stk C f n 0 else 99) then (if stk C f n 0 < 99 then stk C f n 0 else 99) else 0) = clp (stk C f n 0) from clp_mm _, gv_n]
      exact h u hu
    · intro k hk ih u hu hf7 hs
      obtain ⟨hv, hd⟩ := hw.2.1 k hk
      have hn150 := hw.1.2
      apply xX5_growth_60
      unfold vX5_growth_60
      have e1 : u.1 l 1 = nI n := (hu.2 _ _ (hB _)).trans hn
      have e2 : u.1 (l + 1) k = cc (C k) := (hu.2 _ _ (hB1 _)).trans (hc k hk)
      rw [e1, s1, s3, nI_clamp (n := k) (by omega), e2, nI_clamp (n := dp C k) (by omega)]
      refine ⟨q0, fun z => absurd z (nI_ge hk (by omega)), fun _ => ⟨q0, q1, vp_in_nI (by omega) (by omega), ?_⟩⟩
      have step : ∀ u', fr aL w u' → (∀ i, i < 7 → u'.1 (l + 2) i = f i) → (∀ i, i < dp C (k + 1) → u'.1 (l + 3) i = stk C f (k + 1) i) →
        s_Ex (d + 2) 0 mX5_growth 180 [some (.ref l), none, none, none, none, none, none, none, some (.int (nI (dp C (k + 1)))), some (.int (nI k)), none] [] u' (s_I Q) X := by
        intro u' h1 h2 h3
        apply xX5_growth_180
        unfold vX5_growth_180
        rw [nI_1]
        exact ih u' h1 h2 h3
      rcases hv with hv | ⟨hv1, hv2, hv3⟩
      · by_cases hv2 : C k < 1000
        · have ed : dp C (k + 1) = dp C k + 1 := by simp [dp, show C k < 2000 by omega]
          refine ⟨fun z => absurd z (by rw [cc_pos hv2]; exact nI_pos (by omega)), fun _ => ⟨fun z => absurd (show nI 40 ≤ nI (dp C k) from z) (nI_ge hd (by omega)), fun _ => ⟨q0, q3, vp_in_nI (by omega) (by omega), ?_⟩⟩⟩
          rintro _ rfl
          rw [nI_1, ← ed]
          refine step _ (hu.put (hA3 _)) (fun i hi => ?_) (fun i hi => ?_)
          · rw [rd_i (by omega)]; exact hf7 i hi
          · rw [rd_e, if_pos rfl]
            simp only [stk, hv2, if_true, cc_pos hv2]
            split
            · rfl
            · rename_i hne
              exact hs i (by omega)
        · have ed : dp C (k + 1) = dp C k + 1 := by simp [dp, show C k < 2000 by omega]
          obtain ⟨z1, z2, z3⟩ := cc_fact (show 1000 ≤ C k by omega) hv
          refine ⟨fun _ => ?_, fun z => absurd z1 z⟩
          apply xX5_growth_105
          unfold vX5_growth_105
          rw [z3, s2, s3, nI_clamp (n := C k - 1000) (by omega), nI_clamp (n := dp C k) (by omega)]
          refine ⟨fun z => absurd z z2, fun _ => ⟨fun z => absurd (show nI 40 ≤ nI (dp C k) from z) (nI_ge hd (by omega)), fun _ => ⟨q0, q0, q2, vp_in_nI (by omega) (by omega), q3, vp_in_nI (by omega) (by omega), ?_⟩⟩⟩
          rintro _ rfl
          rw [nI_1, ← ed]
          refine step _ (hu.put (hA3 _)) (fun i hi => ?_) (fun i hi => ?_)
          · rw [rd_i (by omega)]; exact hf7 i hi
          · rw [rd_e, if_pos rfl]
            simp only [stk, hv2, if_false, show C k < 2000 by omega, if_true]
            rw [hf7 _ (by omega)]
            split
            · rfl
            · rename_i hne
              exact hs i (by omega)
      · have ed : dp C (k + 1) = dp C k - 1 := by simp [dp, show ¬ C k < 2000 by omega]
        obtain ⟨z1, z2⟩ := cc_op hv1 hv2
        refine ⟨fun _ => ?_, fun z => absurd z1 z⟩
        apply xX5_growth_105
        unfold vX5_growth_105
        refine ⟨fun _ => ?_, fun z => absurd z2 z⟩
        apply xX5_growth_141
        unfold vX5_growth_141
        have e3 : nI (dp C k) + -1 - 1 = nI (dp C k - 2) := by
          rw [nI_m1 (by omega), L_1, pk_sub (by omega), Nat.sub_sub]
        have e4 : C k = 2000 + (C k - 2000) := by omega
        rw [e3, nI_m1 (by omega), s3, nI_clamp (n := dp C k - 2) (by omega), nI_clamp (n := dp C k - 1) (by omega)]
        refine ⟨fun z => absurd (show nI (dp C k) < nI 2 from z) (by rw [nI_ltI (by omega) (by omega)]; omega), fun _ => ⟨q0, q0, q3, vp_in_nI (by omega) (by omega), q0, q3, vp_in_nI (by omega) (by omega), ?_⟩⟩
        rw [e4]
        refine k_joined (by omega) (by omega) ⟨q3, vp_in_nI (by omega) (by omega), ?_⟩
        rintro _ rfl
        rw [← ed]
        refine step _ (hu.put (hA3 _)) (fun i hi => ?_) (fun i hi => ?_)
        · rw [rd_i (by omega)]; exact hf7 i hi
        · rw [rd_e, if_pos rfl, ed, hs (dp C k - 2) (by omega), hs (dp C k - 1) (by omega)]
          simp only [stk, show ¬ C k < 1000 by omega, show ¬ C k < 2000 by omega, if_false]
          split
          · rfl
          · rename_i hne
            exact hs i (by omega)
  apply eX5_growth
  unfold vX5_growth_0
  simp only [s2]
  refine ⟨q0, q2, vp_in_nI (n := 0) (by omega) (by omega), ?_⟩
  rintro _ rfl
  refine ⟨q0, q2, vp_in_nI (n := 1) (by omega) (by omega), ?_⟩
  rintro _ rfl
  refine ⟨q0, q2, vp_in_nI (n := 2) (by omega) (by omega), ?_⟩
  rintro _ rfl
  refine ⟨q0, q2, vp_in_nI (n := 3) (by omega) (by omega), ?_⟩
  rintro _ rfl
  refine ⟨q0, q2, vp_in_nI (n := 4) (by omega) (by omega), ?_⟩
  rintro _ rfl
  refine ⟨q0, q2, vp_in_nI (n := 5) (by omega) (by omega), ?_⟩
  rintro _ rfl
  refine ⟨q0, q2, vp_in_nI (n := 6) (by omega) (by omega), ?_⟩
  rintro _ rfl
  refine loop 0 (Nat.zero_le _) _ (((((((fr.refl aL w).put (hA2 _)).put (hA2 _)).put (hA2 _)).put (hA2 _)).put (hA2 _)).put (hA2 _) |>.put (hA2 _)) (fun i hi => ?_) (fun i hi => absurd hi (Nat.not_lt_zero _))
  rw [← hf]
  obtain rfl | rfl | rfl | rfl | rfl | rfl | rfl : i = 0 ∨ i = 1 ∨ i = 2 ∨ i = 3 ∨ i = 4 ∨ i = 5 ∨ i = 6 := by omega
  all_goals simp [rd_e, f7, show Int32.toNatClampNeg 0 = 0 from rfl, show Int32.toNatClampNeg 1 = 1 from rfl, show Int32.toNatClampNeg 2 = 2 from rfl, show Int32.toNatClampNeg 3 = 3 from rfl, show Int32.toNatClampNeg 4 = 4 from rfl, show Int32.toNatClampNeg 5 = 5 from rfl, show Int32.toNatClampNeg 6 = 6 from rfl]

theorem r_valueNow {d n : Nat} {T : Tb} {C : Nat → Nat} {w : q_Sm} {f : Nat → Int32} {Q : Int32 → q_Sm → Prop} {X : s_Xo} (hE : RE T C n w) (h0 : ¬ w.1 79 40 = 0) (hf : ∀ i, i < 7 → w.1 101 i = f i)
    (h : ∀ u, fr aV w u → Q (stk C f n 0) u) : s_EvI (d + 2) 0 mX12_valueNow w [.ref 79] Q X := by
  obtain ⟨-, -, hw, hL⟩ := hE
  rcases hL with hL | ⟨hn, hc⟩
  · exact absurd hL.1 h0
  have loop : ∀ k, k ≤ n → ∀ u, fr aV w u → (∀ i, i < dp C k → u.1 100 i = stk C f k i) →
      s_Ex (d + 2) 0 mX12_valueNow 4 [some (.ref 79), some (.int (nI (dp C k))), some (.int (nI k)), none] [] u (s_I Q) X := by
    refine n_down ?_ ?_
    · intro u hu hs
      apply xX12_valueNow_4
      unfold vX12_valueNow_4
      have e1 : u.1 79 40 = nI n := (hu.2 _ _ rfl).trans hn
      rw [e1, s_Ii, show Int32.toNatClampNeg 0 = 0 from rfl, hs 0 hw.2.2]
      exact ⟨fun _ => h u hu, fun z => absurd (nI_le (Nat.le_refl _) (by have := hw.1; omega)) z⟩
    · intro k hk ih u hu hs
      obtain ⟨hv, hd⟩ := hw.2.1 k hk
      have hn150 := hw.1.2
      have e1 : u.1 79 40 = nI n := (hu.2 _ _ rfl).trans hn
      have e2 : u.1 98 k = nI (r1 (C k)) := (hu.2 _ _ rfl).trans (hc k hk).1
      have e5 : ∀ i, i < 7 → u.1 101 i = f i := fun i hi => (hu.2 _ _ rfl).trans (hf i hi)
      apply xX12_valueNow_4
      unfold vX12_valueNow_4
      rw [e1, nI_clamp (n := k) (by omega), e2, nI_clamp (n := dp C k) (by omega)]
      refine ⟨fun z => absurd z (nI_ge hk (by omega)), fun _ => ⟨vp_in_nI (by omega) (by omega), ?_⟩⟩
      rcases hv with hv | ⟨hv1, hv2, hv3⟩
      · have e3 : u.1 99 k = nI (r2 (C k)) := (hu.2 _ _ rfl).trans ((hc k hk).2 hv)
        have ed : dp C (k + 1) = dp C k + 1 := by simp [dp, show C k < 2000 by omega]
        rw [e3, nI_1, nI_1]
        by_cases hv2 : C k < 1000
        · have z1 : r1 (C k) = 0 := by simp [r1, hv2]
          have z2 : r2 (C k) = C k := by simp [r2, hv2]
          rw [z1, z2]
          refine ⟨fun z => absurd z (by decide), fun _ => ⟨fun z => absurd rfl z, fun _ => ⟨vp_in_nI (by omega) (by omega), vp_in_nI (by omega) (by omega), ?_⟩⟩⟩
          rintro _ rfl
          rw [← ed]
          refine ih _ (hu.put rfl) (fun i hi => ?_)
          rw [rd_e, if_pos rfl]
          simp only [stk, hv2, if_true]
          split
          · rfl
          · exact hs i (by omega)
        · have z1 : r1 (C k) = 1 := by simp [r1, hv2, hv]
          have z2 : r2 (C k) = C k - 1000 := by simp [r2, hv2]
          rw [z1, z2, nI_clamp (n := C k - 1000) (by omega)]
          refine ⟨fun z => absurd z (by decide), fun _ => ⟨fun _ => ⟨vp_in_nI (by omega) (by omega), vp_in_nI (by omega) (by omega), vp_in_nI (by omega) (by omega), ?_⟩, fun z => absurd (show ¬ nI 1 = 0 by decide) z⟩⟩
          rintro _ rfl
          rw [← ed]
          refine ih _ (hu.put rfl) (fun i hi => ?_)
          rw [rd_e, if_pos rfl]
          simp only [stk, hv2, if_false, show C k < 2000 by omega, if_true]
          rw [e5 _ (by omega)]
          split
          · rfl
          · exact hs i (by omega)
      · have ed : dp C (k + 1) = dp C k - 1 := by simp [dp, show ¬ C k < 2000 by omega]
        have z1 : r1 (C k) = C k - 2000 := by simp [r1, show ¬ C k < 1000 by omega, show ¬ C k < 1007 by omega]
        have e3 : nI (dp C k) + -1 - 1 = nI (dp C k - 2) := by
          rw [nI_m1 (by omega), L_1, pk_sub (by omega), Nat.sub_sub]
        rw [z1, e3, nI_m1 (by omega), nI_clamp (n := dp C k - 2) (by omega), nI_clamp (n := dp C k - 1) (by omega), nI_1]
        refine ⟨fun _ => ⟨vp_in_nI (by omega) (by omega), vp_in_nI (by omega) (by omega), r_both (by omega) (by omega) ⟨vp_in_nI (by omega) (by omega), ?_⟩⟩, fun z => absurd (show nI 1 < nI (C k - 2000) from nI_lt (by omega) (by omega)) z⟩
        rintro _ rfl
        rw [← ed]
        refine ih _ (hu.put rfl) (fun i hi => ?_)
        rw [rd_e, if_pos rfl, ed, hs (dp C k - 2) (by omega), hs (dp C k - 1) (by omega)]
        simp only [stk, show ¬ C k < 1000 by omega, show ¬ C k < 2000 by omega, if_false]
        split
        · rfl
        · exact hs i (by omega)
  apply eX12_valueNow
  unfold vX12_valueNow_0
  exact loop 0 (Nat.zero_le _) w (fr.refl _ _) (fun i hi => absurd hi (Nat.not_lt_zero _))
theorem r_growsNow {d n : Nat} {T : Tb} {C : Nat → Nat} {w : q_Sm} {f : Nat → Int32} {Q : Int32 → q_Sm → Prop} {X : s_Xo} (hE : RE T C n w) (hf : ∀ i, i < 7 → w.1 101 i = f i)
    (h : ∀ u, fr aV w u → Q (nI (gv C n f)) u) : s_EvI (d + 3) 0 mX12_growsNow w [.ref 79] Q X := by
  apply eX12_growsNow
  unfold vX12_growsNow_0
  simp only [s_Ii]
  have k3 : ∀ (v : Int32) (u : q_Sm), Q (clp v) u → ((0 ≤ v) → ((v ≤ 99) → Q v u) ∧ (¬ (v ≤ 99) → Q 99 u)) ∧ (¬ (0 ≤ v) → Q 0 u) := by
    intro v u hq
    rw [← clp_r] at hq
    refine ⟨fun z => ⟨fun z2 => ?_, fun z2 => ?_⟩, fun z => ?_⟩
    · rw [if_pos z, if_pos z2] at hq; exact hq
    · rw [if_pos z, if_neg z2] at hq; exact hq
    · rw [if_neg z] at hq; exact hq
  refine ⟨fun z => r_valueNow hE z hf (fun u hu => k3 _ _ ?_), fun z => ?_⟩
  · rw [gv_n]; exact h u hu
  · have z0 : w.1 79 40 = 0 := Decidable.not_not.mp z
    rcases hE.2.2.2 with ⟨-, rfl, rfl⟩ | hL
    · apply k3
      rw [show Int32.toNatClampNeg 0 = 0 from rfl, show Int32.toNatClampNeg 1 = 1 from rfl, hf 0 (by omega), hf 1 (by omega)]
      have e : f 0 * f 1 / 16 = stk plC f 5 0 := by
        simp [stk, dp, plC, jn, nI]
      rw [e, gv_n]
      exact h w (fr.refl _ _)
    · rw [hL.1] at z0
      have := hE.2.2.1.1
      rw [nI_z0 (by omega)] at z0
      omega
