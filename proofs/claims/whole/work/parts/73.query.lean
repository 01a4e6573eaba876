/-! calls that change nothing, and refused ones -/
theorem agW_ok {d a : Nat} {er : String → Int32 → Prop} {M1 M2 : q_Mt} {w : q_Sm} {As : List Value} (v0 : Int32) (hI : Inv w)
    (hc : ∀ (Q : Int32 → q_Sm → Prop) (X : s_Xo), (∀ u, fr scr w u → Q v0 u) → s_EvI d a M1 w (.ref 1 :: As) Q X)
    (hr : ∀ u, sim w u → ∀ (Q : Int32 → q_Sm → Prop) (X : s_Xo), (∀ u2, fr scr u u2 → u2.1 79 0 = 0 → Q v0 u2) → s_EvI (d + 1) 0 M2 u (.ref 79 :: As) Q X) : ag_W Inv d a er M1 M2 w As := by
  refine hc _ _ (fun u hu => ?_)
  have s1 : sim w (q_wJ u 116 0 (Int32.toInt64 v0)) := ⟨⟨(sim.of hu).1.1, (z75 _ _).trans (sim.of hu).1.2⟩, (sim.of hu).2⟩
  refine hr _ s1 _ _ (fun u2 hu2 h0 => ⟨h0, ?_, hI.sim (s1.trans (sim.of hu2))⟩)
  rw [hu2.1]
  simp [q_wJ, q_up]
theorem agZ_ok {d a : Nat} {er : String → Int32 → Prop} {M1 M2 : q_Mt} {w : q_Sm} {As : List Value} (v0 : Int32) (hI : Inv w)
    (hc : ∀ (Q : Int32 → q_Sm → Prop) (X : s_Xo), (∀ u, fr scr w u → Q v0 u) → s_EvI d a M1 w (.ref 1 :: As) Q X)
    (hr : ∀ u, sim w u → ∀ (Q : Int32 → q_Sm → Prop) (X : s_Xo), (∀ u2, fr scr u u2 → u2.1 79 0 = 0 → Q v0 u2) → s_EvI (d + 1) 0 M2 u (.ref 79 :: As) Q X) : ag_Z Inv d a er M1 M2 w As := by
  refine hc _ _ (fun u hu => ?_)
  have s1 : sim w (q_wJ u 116 0 (if v0 = 0 then 0 else 1)) := ⟨⟨(sim.of hu).1.1, (z75 _ _).trans (sim.of hu).1.2⟩, (sim.of hu).2⟩
  refine hr _ s1 _ _ (fun u2 hu2 h0 => ⟨h0, ?_, hI.sim (s1.trans (sim.of hu2))⟩)
  rw [hu2.1]
  simp [q_wJ, q_up]
theorem agJ_ok {d a : Nat} {er : String → Int32 → Prop} {M1 M2 : q_Mt} {w : q_Sm} {As : List Value} (v0 : Int64) (hI : Inv w)
    (hc : ∀ (Q : Int64 → q_Sm → Prop) (X : s_Xo), (∀ u, fr scr w u → Q v0 u) → s_EvJ d a M1 w (.ref 1 :: As) Q X)
    (hr : ∀ u, sim w u → ∀ (Q : Int64 → q_Sm → Prop) (X : s_Xo), (∀ u2, fr scr u u2 → u2.1 79 0 = 0 → Q v0 u2) → s_EvJ (d + 1) 0 M2 u (.ref 79 :: As) Q X) : ag_J Inv d a er M1 M2 w As := by
  refine hc _ _ (fun u hu => ?_)
  have s1 : sim w (q_wJ u 116 0 v0) := ⟨⟨(sim.of hu).1.1, (z75 _ _).trans (sim.of hu).1.2⟩, (sim.of hu).2⟩
  refine hr _ s1 _ _ (fun u2 hu2 h0 => ⟨h0, ?_, hI.sim (s1.trans (sim.of hu2))⟩)
  rw [hu2.1]
  simp [q_wJ, q_up]
theorem agD_ok {d : Nat} {M1 M2 : q_Mt} {w : q_Sm} {As : List Value} (v0 : Int32) (hI : Inv w)
    (hc : ∀ (Q : Int32 → q_Sm → Prop) (X : s_Xo), (∀ u, fr scr w u → Q v0 u) → s_EvI d 0 M1 w (.ref 1 :: As) Q X)
    (hr : ∀ u, sim w u → ∀ (Q : Int32 → q_Sm → Prop) (X : s_Xo), (∀ u2, fr scr u u2 → Q v0 u2) → s_EvI d 0 M2 u (.ref 79 :: As) Q X) : ag_D Inv d M1 M2 w As := by
  refine hc _ _ (fun u hu => ?_)
  exact hr _ (sim.of hu) _ _ (fun u2 hu2 => ⟨rfl, hI.sim ((sim.of hu).trans (sim.of hu2))⟩)
/-- a refusal, counted on both sides -/
def bmK (w : q_Sm) (s : Nat) : q_Sm := q_wI w 1 s (w.1 1 s + 1)
def bmR (w : q_Sm) (k : Int32) (t : Nat) : q_Sm := q_wI (q_wI (q_wI w 79 0 0) 79 0 k) 80 t (w.1 80 t + 1)
theorem Inv_bm {w : q_Sm} {k : Int32} {s t : Nat} (h : Inv w) (hst : (s = 13 ∧ t = 0) ∨ (s = 14 ∧ t = 1)) : Inv (bmR (bmK w s) k t) := by
  have e : ∀ i j, i ≠ 1 → i ≠ 80 → ¬ (i = 79 ∧ j = 0) → (bmR (bmK w s) k t).1 i j = w.1 i j := by
    intro i j h1 h2 h3
    unfold bmR bmK
    rw [rd_i h2]
    by_cases q : i = 79
    · rw [rd_j (by omega), rd_j (by omega), rd_i h1]
    · rw [rd_i q, rd_i q, rd_i h1]
  have e1 : ∀ j, j ≠ s → (bmR (bmK w s) k t).1 1 j = w.1 1 j := by
    intro j hj
    unfold bmR bmK
    rw [rd_i (by omega), rd_i (by omega), rd_i (by omega), rd_j hj]
  have e2 : ∀ j, j ≠ t → (bmR (bmK w s) k t).1 80 j = w.1 80 j := by
    intro j hj
    unfold bmR bmK
    rw [rd_j hj, rd_i (by omega), rd_i (by omega), rd_i (by omega)]
  have e3 : (bmR (bmK w s) k t).1 1 s = w.1 1 s + 1 := by
    unfold bmR bmK
    rw [rd_i (by omega), rd_i (by omega), rd_i (by omega), rd_s]
  have e4 : (bmR (bmK w s) k t).1 80 t = w.1 80 t + 1 := by
    unfold bmR bmK
    rw [rd_s, rd_i (by omega)]
  obtain ⟨T, β, C, n, S, B, m, h1, h2, h3, h4, h5⟩ := h
  refine ⟨T, β, C, n, S, B, m, ?_, h2.eq (fun i j q => e i j (by omega) (by omega) (by omega)), h3.eq (fun i j q => ?_), h4.eq (fun i j q => e i j (by omega) (by omega) (by omega)), ?_⟩
  · obtain ⟨a1, a2, a3, a4, a5, a6, a7, a8⟩ := h1
    have ho := a2.1
    have hl := a2.2.1
    refine ⟨a1, ⟨a2.1, a2.2.1, a2.2.2.1, a2.2.2.2.1.eq (fun i j q q2 => e i j ?_ ?_ ?_), a2.2.2.2.2.1, ?_, fun j hj => ?_⟩, a3.eq (fun i j q => e i j (by omega) (by omega) (by omega)), a4.eq (fun j => e _ _ (by omega) (by omega) (by omega)), a5.eq (fun j => e _ _ (by omega) (by omega) (by omega)), a6, a7.eq (fun i j q => e i j (by omega) (by omega) (by omega)), a8.eq rfl (by have := a1.2.2; omega) (fun i j q => e i j (by omega) (by omega) (by omega))⟩
    · show i ≠ 1
      have : w.2.2.1 ≤ i := q2
      omega
    · show i ≠ 80
      have : i ≤ w.2.2.1 + 15 := q
      omega
    · have : i ≤ w.2.2.1 + 15 := q
      omega
    · have : (bmR (bmK w s) k t).1 w.2.2.2.2.1 1 = w.1 w.2.2.2.2.1 1 := e _ _ (by omega) (by omega) (by omega)
      exact this.trans a2.2.2.2.2.2.1
    · have : (bmR (bmK w s) k t).1 (w.2.2.2.2.1 + 1) j = w.1 (w.2.2.2.2.1 + 1) j := e _ _ (by omega) (by omega) (by omega)
      exact this.trans (a2.2.2.2.2.2.2 j hj)
  · by_cases q1 : i = 1
    · subst q1
      exact e1 j (by omega)
    · exact e i j q1 (by omega) (by omega)
  · obtain ⟨c1, c2, c3, c4⟩ := h5
    unfold cnt
    rw [e 79 46 (by omega) (by omega) (by omega), e 2 6 (by omega) (by omega) (by omega), e 79 8 (by omega) (by omega) (by omega), e1 12 (by omega)]
    rcases hst with ⟨rfl, rfl⟩ | ⟨rfl, rfl⟩
    · rw [e3, e4, e1 14 (by omega), e2 1 (by omega), c1]
      exact ⟨rfl, c2, c3, c4⟩
    · rw [e3, e4, e1 13 (by omega), e2 0 (by omega), c2]
      exact ⟨c1, rfl, c3, c4⟩
theorem agW_no {d a : Nat} {er : String → Int32 → Prop} {M1 M2 : q_Mt} {w : q_Sm} {As : List Value} (hI : Inv w) (E : String) (k : Int32) (s t : Nat) (hst : (s = 13 ∧ t = 0) ∨ (s = 14 ∧ t = 1)) (hE : er E k)
    (hc : ∀ (Q : Int32 → q_Sm → Prop) (X : s_Xo), X E (bmK w s) → s_EvI d a M1 w (.ref 1 :: As) Q X)
    (hr : ∀ u, (∀ i j, i ≠ 1 → u.1 i j = w.1 i j) → ∀ (Q : Int32 → q_Sm → Prop) (X : s_Xo), Q 0 (bmR u k t) → s_EvI (d + 1) 0 M2 u (.ref 79 :: As) Q X) : ag_W Inv d a er M1 M2 w As := by
  refine hc _ _ ⟨k, hE, hr (bmK w s) (fun i j h => rd_i h) _ _ ⟨?_, Inv_bm hI hst⟩⟩
  unfold bmR
  rw [rd_i (by omega), rd_s]
theorem agZ_no {d a : Nat} {er : String → Int32 → Prop} {M1 M2 : q_Mt} {w : q_Sm} {As : List Value} (hI : Inv w) (E : String) (k : Int32) (s t : Nat) (hst : (s = 13 ∧ t = 0) ∨ (s = 14 ∧ t = 1)) (hE : er E k)
    (hc : ∀ (Q : Int32 → q_Sm → Prop) (X : s_Xo), X E (bmK w s) → s_EvI d a M1 w (.ref 1 :: As) Q X)
    (hr : ∀ u, (∀ i j, i ≠ 1 → u.1 i j = w.1 i j) → ∀ (Q : Int32 → q_Sm → Prop) (X : s_Xo), Q 0 (bmR u k t) → s_EvI (d + 1) 0 M2 u (.ref 79 :: As) Q X) : ag_Z Inv d a er M1 M2 w As := by
  refine hc _ _ ⟨k, hE, hr (bmK w s) (fun i j h => rd_i h) _ _ ⟨?_, Inv_bm hI hst⟩⟩
  unfold bmR
  rw [rd_i (by omega), rd_s]
theorem agJ_no {d a : Nat} {er : String → Int32 → Prop} {M1 M2 : q_Mt} {w : q_Sm} {As : List Value} (hI : Inv w) (E : String) (k : Int32) (s t : Nat) (hst : (s = 13 ∧ t = 0) ∨ (s = 14 ∧ t = 1)) (hE : er E k)
    (hc : ∀ (Q : Int64 → q_Sm → Prop) (X : s_Xo), X E (bmK w s) → s_EvJ d a M1 w (.ref 1 :: As) Q X)
    (hr : ∀ u, (∀ i j, i ≠ 1 → u.1 i j = w.1 i j) → ∀ (Q : Int64 → q_Sm → Prop) (X : s_Xo), Q 0 (bmR u k t) → s_EvJ (d + 1) 0 M2 u (.ref 79 :: As) Q X) : ag_J Inv d a er M1 M2 w As := by
  refine hc _ _ ⟨k, hE, hr (bmK w s) (fun i j h => rd_i h) _ _ ⟨?_, Inv_bm hI hst⟩⟩
  unfold bmR
  rw [rd_i (by omega), rd_s]
/-! checks -/
theorem rng (x : Int32) (N : Nat) (hN : N < 2 ^ 31) : (∃ j : Nat, j ≤ N ∧ x = nI j) ∨ r_in x 0 (nI N) = 0 := by
  unfold r_in
  by_cases h : x < 0 ∨ nI N < x
  · right; rw [if_pos h]
  · left
    obtain ⟨j, hj, rfl⟩ := nI_of (fun q => h (Or.inl q))
    refine ⟨j, ?_, rfl⟩
    rcases Nat.lt_or_ge N j with z | z
    · exact absurd (Or.inr (nI_lt z hj)) h
    · exact z
theorem rng1 (x : Int32) (N : Nat) (hN : N < 2 ^ 31) : (∃ j : Nat, 1 ≤ j ∧ j ≤ N ∧ x = nI j) ∨ r_in x 1 (nI N) = 0 := by
  unfold r_in
  by_cases h : x < 1 ∨ nI N < x
  · right; rw [if_pos h]
  · left
    have h0 : ¬ x < 0 := fun q => h (Or.inl (Int32.lt_trans q (by decide)))
    obtain ⟨j, hj, rfl⟩ := nI_of h0
    refine ⟨j, ?_, ?_, rfl⟩
    · rcases Nat.lt_or_ge j 1 with z | z
      · exact absurd (Or.inl (show nI j < nI 1 from nI_lt z (by omega))) h
      · exact z
    · rcases Nat.lt_or_ge N j with z | z
      · exact absurd (Or.inr (nI_lt z hj)) h
      · exact z
/-- of those that are numbered from 0 on -/
theorem rngc (x : Int32) (N : Nat) (hN : N ≤ 100) : (∃ j : Nat, j < N ∧ x = nI j) ∨ r_in x 0 (nI N - 1) = 0 := by
  by_cases h : N = 0
  · right
    subst h
    unfold r_in
    by_cases q : x < 0
    · rw [if_pos (Or.inl q)]
    · rw [if_pos (Or.inr (Int32.lt_of_lt_of_le (show nI 0 - 1 < 0 by decide) (Int32.not_lt.mp q)))]
  · rw [L_1, pk_sub (by omega)]
    rcases rng x (N - 1) (by omega) with ⟨j, hj, e⟩ | e
    · exact Or.inl ⟨j, by omega, e⟩
    · exact Or.inr e
theorem r_in1 {j a b : Nat} (h1 : a ≤ j) (h2 : j ≤ b) (hb : b < 2 ^ 31) : r_in (nI j) (nI a) (nI b) = 1 := by
  unfold r_in
  rw [if_neg]
  rintro (q | q)
  · exact nI_nlt h1 (by omega) q
  · exact nI_nlt h2 hb q
theorem r_inc {j N : Nat} (h : j < N) (hN : N ≤ 100) : r_in (nI j) 0 (nI N - 1) = 1 := by
  rw [L_1, pk_sub (by omega)]
  exact r_in1 (a := 0) (Nat.zero_le _) (by omega) (by omega)
theorem r_in_c (x a b : Int32) : r_in x a b = 0 ∨ r_in x a b = 1 := by
  unfold r_in
  split
  · exact Or.inl rfl
  · exact Or.inr rfl
theorem K_isIn {d : Nat} {x a b : Int32} {w : q_Sm} {Q : Int32 → q_Sm → Prop} {X : s_Xo} (h : Q (r_in x a b) w) : s_EvI (d + 1) 0 mX11_isIn w [.int x, .int a, .int b] Q X := by
  apply eX11_isIn
  unfold vX11_isIn_0
  simp only [s_Ii]
  unfold r_in at h
  refine ⟨fun z => ?_, fun z => ⟨fun z2 => ?_, fun z2 => ?_⟩⟩
  · rw [if_pos (Or.inl z)] at h; exact h
  · rw [if_pos (Or.inr z2)] at h; exact h
  · rw [if_neg (fun q => q.elim z z2)] at h; exact h
theorem K_isColour {d : Nat} {x : Int32} {w : q_Sm} {Q : Int32 → q_Sm → Prop} {X : s_Xo} (h : Q (r_in x 0 3) w) : s_EvI (d + 2) 0 mX11_isColour w [.int x] Q X := by
  apply eX11_isColour
  unfold vX11_isColour_0
  refine K_isIn ⟨?_, by rw [s_Ii]; exact h⟩
  rcases r_in_c x 0 3 with e | e <;> rw [e] <;> rfl
theorem K_isDusk {d : Nat} {x : Int32} {w : q_Sm} {Q : Int32 → q_Sm → Prop} {X : s_Xo} (h : Q (r_in x 0 200) w) : s_EvI (d + 2) 0 mX11_isDusk w [.int x] Q X := by
  apply eX11_isDusk
  unfold vX11_isDusk_0
  refine K_isIn ⟨?_, by rw [s_Ii]; exact h⟩
  rcases r_in_c x 0 200 with e | e <;> rw [e] <;> rfl
theorem R_within {d : Nat} {x a b : Int32} {w : q_Sm} {Q : Int32 → q_Sm → Prop} {X : s_Xo} (h : Q (r_in x a b) w) : s_EvI (d + 1) 0 mX12_within w [.int x, .int a, .int b] Q X :=
  cI r_within (fun _ _ ⟨h1, h2⟩ => by rw [h1, h2]; exact h)
theorem R_isColour {d : Nat} {x : Int32} {w : q_Sm} {Q : Int32 → q_Sm → Prop} {X : s_Xo} (h : Q (r_in x 0 3) w) : s_EvI (d + 1) 0 mX12_isColour w [.int x] Q X := by
  apply eX12_isColour
  unfold vX12_isColour_0
  simp only [s_Ii]
  unfold r_in at h
  refine ⟨fun z => ?_, fun z => ⟨fun z2 => ?_, fun z2 => ?_⟩⟩
  · rw [if_pos (Or.inl z)] at h; exact h
  · rw [if_pos (Or.inr (Int32.lt_of_lt_of_le (by decide) z2))] at h; exact h
  · have key : ¬ (3 : Int32) < x := fun q2 => by
      obtain ⟨j, hj, rfl⟩ := nI_of z
      rw [show (3 : Int32) = nI 3 from rfl, nI_ltI (by omega) hj] at q2
      exact z2 (show nI 4 ≤ nI j from nI_le (by omega) hj)
    rw [if_neg (fun q => q.elim z key)] at h
    exact h
theorem R_isDusk {d : Nat} {x : Int32} {w : q_Sm} {Q : Int32 → q_Sm → Prop} {X : s_Xo} (h : Q (r_in x 0 200) w) : s_EvI (d + 1) 0 mX12_isDusk w [.int x] Q X := by
  apply eX12_isDusk
  unfold vX12_isDusk_0
  simp only [s_Ii]
  unfold r_in at h
  refine ⟨fun z => ?_, fun z => ⟨fun z2 => ?_, fun z2 => ?_⟩⟩
  · rw [if_pos (Or.inl z)] at h; exact h
  · rw [if_pos (Or.inr z2)] at h; exact h
  · rw [if_neg (fun q => q.elim z z2)] at h; exact h
theorem K_req0 {d : Nat} {w : q_Sm} {Q : q_Sm → Prop} {X : s_Xo} (h : X "java/lang/IllegalArgumentException" (bmK w 14)) : s_EvV (d + 8) 1 mX11_require w [.ref 1, .int 0] Q X := eX11_require (fun q => absurd rfl q) (fun _ => h)
theorem K_req1 {d : Nat} {w : q_Sm} {Q : q_Sm → Prop} {X : s_Xo} (h : Q w) : s_EvV (d + 8) 1 mX11_require w [.ref 1, .int 1] Q X := eX11_require (fun _ => ⟨rfl, h⟩) (fun q => absurd q (by decide))
theorem K_req {d : Nat} {v : Int32} {w : q_Sm} {Q : q_Sm → Prop} {X : s_Xo} (h0 : v = 0 → X "java/lang/IllegalArgumentException" (bmK w 14)) (h1 : v ≠ 0 → Q w) : s_EvV (d + 8) 1 mX11_require w [.ref 1, .int v] Q X := eX11_require (fun q => ⟨rfl, h1 q⟩) h0
theorem R_may1 {d : Nat} {a b : Int32} {w : q_Sm} {Q : Int32 → q_Sm → Prop} {X : s_Xo} (h0 : w.1 79 0 = 0) (h : Q 1 w) : s_EvI (d + 1) 0 mX12_may w [.ref 79, .int 1, .int a, .int b] Q X := by
  apply eX12_may
  unfold vX12_may_0
  simp only [s_Ii]
  exact ⟨fun _ => ⟨fun q => absurd h0 q, fun _ => h⟩, fun q => absurd (show ¬ (1 : Int32) = 0 by decide) q⟩
theorem R_may0 {d : Nat} {k t : Nat} {w : q_Sm} {Q : Int32 → q_Sm → Prop} {X : s_Xo} (hk : 0 < k) (hk2 : k < 10) (ht : t < 2) (h0 : w.1 79 0 = 0) (h : Q 0 (q_wI (q_wI w 79 0 (nI k)) 80 t (w.1 80 t + 1))) : s_EvI (d + 1) 0 mX12_may w [.ref 79, .int 0, .int (nI k), .int (nI t)] Q X := by
  apply eX12_may
  unfold vX12_may_0
  simp only [s_Ii]
  refine ⟨fun q => absurd trivial q, fun _ => ⟨fun q => absurd h0 q, fun _ => ?_⟩⟩
  rintro _ rfl
  rw [nI_clamp (by omega)]
  refine ⟨(vp_nI (by omega)).mpr ht, (vp_nI (by omega)).mpr ht, ?_⟩
  rintro _ rfl
  rw [rd_i (by omega), rd_s, rd_i (by omega)]
  exact ⟨fun _ => h, fun q => absurd (nI_ne0 hk (by omega)) q⟩
theorem R_no {d : Nat} {k t : Nat} {u : q_Sm} {Q : Int32 → q_Sm → Prop} {X : s_Xo} (hk : 0 < k) (hk2 : k < 10) (ht : t < 2) (h : Q 0 (bmR u (nI k) t)) : s_EvI (d + 1) 0 mX12_may (q_wI u 79 0 0) [.ref 79, .int 0, .int (nI k), .int (nI t)] Q X := by
  refine R_may0 hk hk2 ht rd_s ?_
  rw [rd_i (by omega)]
  exact h
/-! those that must be there -/
theorem tb_nw {T : Tb} (h : tb T) : T 7 3 ≤ 6 := h.1.2.2.2.1
theorem RE.t {n : Nat} {v : Int32} {T : Tb} {C : Nat → Nat} {w : q_Sm} (h : RE T C n w) : RE T C n (q_wI w 79 0 v) := h.eq (fun i j q => by
  by_cases e : i = 79
  · exact rd_j (by omega)
  · exact rd_i e)
theorem scr_t {w : q_Sm} {v : Int32} : fr scr w (q_wI w 79 0 v) := fr.wr rfl
theorem RE.n1 {n : Nat} {T : Tb} {C : Nat → Nat} {w u : q_Sm} (h : RE T C n w) (k : ∀ i j, i ≠ 1 → u.1 i j = w.1 i j) : RE T C n u := h.eq (fun i j q => k i j (by omega))
theorem K_cred {d n l : Nat} {x : Int32} {T : Tb} {β C : Nat → Nat} {w : q_Sm} {Q : q_Sm → Prop} {X : s_Xo} (hE : KE w.2.2.1 l T β C n w) (h0 : r_in x 0 (nI (T 7 0) - 1) = 0 → X "java/util/NoSuchElementException" (bmK w 13)) (h1 : r_in x 0 (nI (T 7 0) - 1) = 1 → Q w) : s_EvV (d + 9) 1 mX11_requireCreditor w [.ref 1, .int x] Q X := by
  apply eX11_requireCreditor
  unfold vX11_requireCreditor_0
  have e : w.1 w.2.2.1 0 = nI (T 7 0) := hE.2.2.2.1.1.1
  rw [e]
  refine ⟨ia_0 hE.1, K_isIn (eX11_requireSuch (fun q => ⟨rfl, ⟨rfl, h1 ?_⟩⟩) (fun q => h0 q))⟩
  rcases r_in_c x 0 (nI (T 7 0) - 1) with z | z
  · exact absurd z q
  · exact z
theorem R_cred1 {d n : Nat} {x a : Int32} {T : Tb} {C : Nat → Nat} {w : q_Sm} {Q : Int32 → q_Sm → Prop} {X : s_Xo} (hE : RE T C n w) (h79 : w.1 79 0 = 0) (hr : r_in x 0 (nI (T 7 0) - 1) = 1) (h : Q 1 w) : s_EvI (d + 2) 0 mX12_isCreditor_ w [.ref 79, .int x, .int a] Q X := by
  apply eX12_isCreditor_
  unfold vX12_isCreditor__0
  have e : w.1 79 29 = nI (T 7 0) := hE.2.1.1.1
  rw [e]
  refine R_within ?_
  rw [hr]
  exact R_may1 h79 ⟨rfl, ⟨_, rfl, h⟩⟩
theorem R_cred0 {d n k : Nat} {x : Int32} {T : Tb} {C : Nat → Nat} {u : q_Sm} {Q : Int32 → q_Sm → Prop} {X : s_Xo} (hE : RE T C n (q_wI u 79 0 0)) (hk : 0 < k) (hk2 : k < 10) (hr : r_in x 0 (nI (T 7 0) - 1) = 0) (h : Q 0 (bmR u (nI k) 0)) : s_EvI (d + 2) 0 mX12_isCreditor_ (q_wI u 79 0 0) [.ref 79, .int x, .int (nI k)] Q X := by
  apply eX12_isCreditor_
  unfold vX12_isCreditor__0
  have e : (q_wI u 79 0 0).1 79 29 = nI (T 7 0) := hE.2.1.1.1
  rw [e]
  refine R_within ?_
  rw [hr]
  exact R_no (t := 0) hk hk2 (by omega) ⟨rfl, ⟨_, rfl, h⟩⟩
theorem K_debt {d n l : Nat} {x : Int32} {T : Tb} {β C : Nat → Nat} {w : q_Sm} {Q : q_Sm → Prop} {X : s_Xo} (hE : KE w.2.2.1 l T β C n w) (h0 : r_in x 0 (nI (T 7 1) - 1) = 0 → X "java/util/NoSuchElementException" (bmK w 13)) (h1 : r_in x 0 (nI (T 7 1) - 1) = 1 → Q w) : s_EvV (d + 9) 1 mX11_requireDebt w [.ref 1, .int x] Q X := by
  apply eX11_requireDebt
  unfold vX11_requireDebt_0
  have e : w.1 w.2.2.1 3 = nI (T 7 1) := hE.2.2.2.1.1.2.1
  rw [e]
  refine ⟨ia_0 hE.1, K_isIn (eX11_requireSuch (fun q => ⟨rfl, ⟨rfl, h1 ?_⟩⟩) (fun q => h0 q))⟩
  rcases r_in_c x 0 (nI (T 7 1) - 1) with z | z
  · exact absurd z q
  · exact z
theorem R_debt1 {d n : Nat} {x a : Int32} {T : Tb} {C : Nat → Nat} {w : q_Sm} {Q : Int32 → q_Sm → Prop} {X : s_Xo} (hE : RE T C n w) (h79 : w.1 79 0 = 0) (hr : r_in x 0 (nI (T 7 1) - 1) = 1) (h : Q 1 w) : s_EvI (d + 2) 0 mX12_isDebt w [.ref 79, .int x, .int a] Q X := by
  apply eX12_isDebt
  unfold vX12_isDebt_0
  have e : w.1 79 30 = nI (T 7 1) := hE.2.1.1.2.1
  rw [e]
  refine R_within ?_
  rw [hr]
  exact R_may1 h79 ⟨rfl, ⟨_, rfl, h⟩⟩
theorem R_debt0 {d n k : Nat} {x : Int32} {T : Tb} {C : Nat → Nat} {u : q_Sm} {Q : Int32 → q_Sm → Prop} {X : s_Xo} (hE : RE T C n (q_wI u 79 0 0)) (hk : 0 < k) (hk2 : k < 10) (hr : r_in x 0 (nI (T 7 1) - 1) = 0) (h : Q 0 (bmR u (nI k) 0)) : s_EvI (d + 2) 0 mX12_isDebt (q_wI u 79 0 0) [.ref 79, .int x, .int (nI k)] Q X := by
  apply eX12_isDebt
  unfold vX12_isDebt_0
  have e : (q_wI u 79 0 0).1 79 30 = nI (T 7 1) := hE.2.1.1.2.1
  rw [e]
  refine R_within ?_
  rw [hr]
  exact R_no (t := 0) hk hk2 (by omega) ⟨rfl, ⟨_, rfl, h⟩⟩
theorem K_wed {d n l : Nat} {x : Int32} {T : Tb} {β C : Nat → Nat} {w : q_Sm} {Q : q_Sm → Prop} {X : s_Xo} (hE : KE w.2.2.1 l T β C n w) (h0 : r_in x 0 (nI (T 7 3) - 1) = 0 → X "java/util/NoSuchElementException" (bmK w 13)) (h1 : r_in x 0 (nI (T 7 3) - 1) = 1 → Q w) : s_EvV (d + 9) 1 mX11_requireWedding w [.ref 1, .int x] Q X := by
  apply eX11_requireWedding
  unfold vX11_requireWedding_0
  have e : w.1 w.2.2.1 14 = nI (T 7 3) := hE.2.2.2.1.1.2.2.2.1
  rw [e]
  refine ⟨ia_0 hE.1, K_isIn (eX11_requireSuch (fun q => ⟨rfl, ⟨rfl, h1 ?_⟩⟩) (fun q => h0 q))⟩
  rcases r_in_c x 0 (nI (T 7 3) - 1) with z | z
  · exact absurd z q
  · exact z
theorem R_wed1 {d n : Nat} {x a : Int32} {T : Tb} {C : Nat → Nat} {w : q_Sm} {Q : Int32 → q_Sm → Prop} {X : s_Xo} (hE : RE T C n w) (h79 : w.1 79 0 = 0) (hr : r_in x 0 (nI (T 7 3) - 1) = 1) (h : Q 1 w) : s_EvI (d + 2) 0 mX12_isWedding_ w [.ref 79, .int x, .int a] Q X := by
  apply eX12_isWedding_
  unfold vX12_isWedding__0
  have e : w.1 79 32 = nI (T 7 3) := hE.2.1.1.2.2.2.1
  rw [e]
  refine R_within ?_
  rw [hr]
  exact R_may1 h79 ⟨rfl, ⟨_, rfl, h⟩⟩
theorem R_wed0 {d n k : Nat} {x : Int32} {T : Tb} {C : Nat → Nat} {u : q_Sm} {Q : Int32 → q_Sm → Prop} {X : s_Xo} (hE : RE T C n (q_wI u 79 0 0)) (hk : 0 < k) (hk2 : k < 10) (hr : r_in x 0 (nI (T 7 3) - 1) = 0) (h : Q 0 (bmR u (nI k) 0)) : s_EvI (d + 2) 0 mX12_isWedding_ (q_wI u 79 0 0) [.ref 79, .int x, .int (nI k)] Q X := by
  apply eX12_isWedding_
  unfold vX12_isWedding__0
  have e : (q_wI u 79 0 0).1 79 32 = nI (T 7 3) := hE.2.1.1.2.2.2.1
  rw [e]
  refine R_within ?_
  rw [hr]
  exact R_no (t := 0) hk hk2 (by omega) ⟨rfl, ⟨_, rfl, h⟩⟩
