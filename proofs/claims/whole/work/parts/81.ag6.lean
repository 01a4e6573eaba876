/-! agreements: bids, gets -/
def gA (p a b : Nat) : Int32 := gnI (nI p) (nI a) (nI b)
def bgF (p o : Nat) : Nat → Int32
  | 0 => gA p 0 o
  | k + 1 => if bgF p o k < gA p (k + 1) o then gA p (k + 1) o else bgF p o k
theorem bg_ge {p o : Nat} : ∀ n k, k ≤ n → gA p k o ≤ bgF p o n := by
  intro n
  induction n with
  | zero => intro k hk; rw [show k = 0 by omega]; exact Int32.le_refl _
  | succ n ih =>
    intro k hk
    unfold bgF
    by_cases q : k = n + 1
    · subst q
      split
      · exact Int32.le_refl _
      · rename_i z; exact Int32.not_lt.mp z
    · have := ih k (by omega)
      split
      · rename_i z; exact Int32.le_trans this (Int32.le_of_lt z)
      · exact this
theorem bg_ex {p o : Nat} : ∀ n, ∃ k, k ≤ n ∧ bgF p o n = gA p k o := by
  intro n
  induction n with
  | zero => exact ⟨0, by omega, rfl⟩
  | succ n ih =>
    unfold bgF
    split
    · exact ⟨n + 1, by omega, rfl⟩
    · obtain ⟨k, hk, e⟩ := ih
      exact ⟨k, by omega, e⟩
theorem bg_iff {p o a n : Nat} (ha : a ≤ n) : gA p a o = bgF p o n ↔ ∀ k, k ≤ n → gA p k o ≤ gA p a o := by
  constructor
  · intro h k hk
    rw [h]
    exact bg_ge n k hk
  · intro h
    obtain ⟨k, hk, e⟩ := bg_ex (p := p) (o := o) n
    exact Int32.le_antisymm (bg_ge n a ha) (by rw [e]; exact h k hk)
theorem K_bestGain {d p n o : Nat} {w : q_Sm} {Q : Int32 → q_Sm → Prop} {X : s_Xo} (hn : n ≤ 20) (h : Q (bgF p o n) w) : s_EvI (d + 2) 0 mX0_bestGain w [.int (nI p), .int (nI n), .int (nI o)] Q X := by
  have loop : ∀ k, k ≤ n → s_Ex (d + 2) 0 mX0_bestGain 10 [some (.int (nI p)), some (.int (nI n)), some (.int (nI o)), some (.int (bgF p o k)), some (.int (nI (k + 1)))] [] w (s_I Q) X := by
    refine n_down ?_ ?_
    · apply xX0_bestGain_10
      unfold vX0_bestGain_10
      exact ⟨fun _ => ⟨_, rfl, h⟩, fun z => absurd (nI_lt (show n < n + 1 by omega) (by omega)) z⟩
    · intro k hk ih
      apply xX0_bestGain_10
      unfold vX0_bestGain_10
      refine ⟨fun z => absurd z (nI_nlt (by omega) (by omega)), fun _ => K_gain (k_max ?_)⟩
      rw [nI_1]
      exact ih
  apply eX0_bestGain
  unfold vX0_bestGain_0
  exact K_gain (loop 0 (by omega))
def rsP (p n a b : Nat) : Prop := gA p a b = bgF p b n ∧ gA p b a = bgF p a n
def rsI (p n a : Nat) (s : Nat × Ok2) : Nat → Nat × Ok2
  | 0 => s
  | b + 1 => if gA p a b = bgF p b n ∧ gA p b a = bgF p a n then ((rsI p n a s b).1 + 1, match (rsI p n a s b).2 with
      | none => some (a, b)
      | some x => some x) else rsI p n a s b
def rsO (p n : Nat) : Nat → Nat × Ok2
  | 0 => (0, none)
  | a + 1 => rsI p n a (rsO p n a) (n + 1)
def rsW (n : Nat) (s : Nat × Ok2) (c : Nat) : Prop := s.1 ≤ c ∧ match s.2 with
  | none => s.1 = 0
  | some x => 0 < s.1 ∧ x.1 ≤ n ∧ x.2 ≤ n
theorem rsI_w {p n a c : Nat} {s : Nat × Ok2} (h : rsW n s c) (ha : a ≤ n) : ∀ b, b ≤ n + 1 → rsW n (rsI p n a s b) (c + b) := by
  intro b
  induction b with
  | zero => intro _; exact h
  | succ b ih =>
    intro hb
    have h1 := ih (by omega)
    unfold rsI
    split
    · revert h1
      generalize rsI p n a s b = t
      obtain ⟨t1, t2⟩ := t
      intro h1
      refine ⟨by have := h1.1; simp only at *; omega, ?_⟩
      cases t2 with
      | none => exact ⟨by simp, ha, by simp; omega⟩
      | some x => exact ⟨by simp, h1.2.2⟩
    · refine ⟨by have := h1.1; omega, h1.2⟩
theorem rsO_w {p n : Nat} : ∀ a, a ≤ n + 1 → rsW n (rsO p n a) (a * (n + 1)) := by
  intro a
  induction a with
  | zero => intro _; exact ⟨Nat.zero_le _, rfl⟩
  | succ a ih =>
    intro ha
    have := rsI_w (p := p) (ih (by omega)) (show a ≤ n by omega) (n + 1) (Nat.le_refl _)
    rw [← Nat.succ_mul] at this
    exact this
def aU (i _j : Nat) : Bool := i == 77 || i == 78
/-- the class's cells of it -/
def auS (s : Nat × Ok2) (u : q_Sm) : Prop := u.1 77 1 = nI s.1 ∧ ∀ x, s.2 = some x → u.1 77 2 = nI x.1 ∧ u.1 77 3 = nI x.2
theorem K_findRests {d p n : Nat} {w : q_Sm} {Q : q_Sm → Prop} {X : s_Xo} (hn : n ≤ 20) (h : ∀ u, fr aU w u → auS (rsO p n (n + 1)) u → Q u) : s_EvV (d + 3) 0 mX0_findRests w [.ref 77, .int (nI p), .int (nI n)] Q X := by
  have l40 : ∀ a, a ≤ n → (∀ u, fr aU w u → (∀ k, k ≤ n → u.1 78 k = bgF p k n) → auS (rsO p n (a + 1)) u → s_Ex (d + 3) 0 mX0_findRests 32 [some (.ref 77), some (.int (nI p)), some (.int (nI n)), some (.int (nI (a + 1))), none] [] u (s_V Q) X) →
      ∀ b, b ≤ n + 1 → ∀ u, fr aU w u → (∀ k, k ≤ n → u.1 78 k = bgF p k n) → auS (rsI p n a (rsO p n a) b) u → s_Ex (d + 3) 0 mX0_findRests 40 [some (.ref 77), some (.int (nI p)), some (.int (nI n)), some (.int (nI a)), some (.int (nI b))] [] u (s_V Q) X := by
    intro a ha next
    refine n_down ?_ ?_
    · intro u hu hk hs
      apply xX0_findRests_40
      unfold vX0_findRests_40
      rw [nI_1]
      exact ⟨fun _ => next u hu hk hs, fun z => absurd (nI_lt (show n < n + 1 by omega) (by omega)) z⟩
    · intro b hb ih u hu hk hs
      have hw := rsI_w (p := p) (rsO_w (p := p) (n := n) a (by omega)) ha b (by omega)
      have hc : a * (n + 1) ≤ 20 * 21 := Nat.mul_le_mul (by omega) (by omega)
      have hw1 := hw.1
      apply xX0_findRests_40
      unfold vX0_findRests_40
      rw [nI_clamp (n := a) (by omega), nI_clamp (n := b) (by omega), nI_1 b]
      refine ⟨fun z => absurd z (nI_nlt (by omega) (by omega)), fun _ => K_gain ⟨(vp_nI (by omega)).mpr (by omega), fun z => ?_, fun z => K_gain ⟨(vp_nI (by omega)).mpr (by omega), fun z2 => ?_, fun z2 => ?_⟩⟩⟩
      · rw [hk b (by omega)] at z
        have e : rsI p n a (rsO p n a) (b + 1) = rsI p n a (rsO p n a) b := if_neg (fun q => z q.1)
        rw [e] at ih
        exact ih u hu hk hs
      · rw [hk a (by omega)] at z2
        have e : rsI p n a (rsO p n a) (b + 1) = rsI p n a (rsO p n a) b := if_neg (fun q => z2 q.2)
        rw [e] at ih
        exact ih u hu hk hs
      · rw [hk a (by omega)] at z2
        rw [hk b (by omega)] at z
        have e : rsI p n a (rsO p n a) (b + 1) = ((rsI p n a (rsO p n a) b).1 + 1, match (rsI p n a (rsO p n a) b).2 with
          | none => some (a, b)
          | some x => some x) := if_pos ⟨Decidable.not_not.mp z, Decidable.not_not.mp z2⟩
        rw [e] at ih
        revert ih hs hw hw1
        generalize rsI p n a (rsO p n a) b = t
        obtain ⟨t1, t2⟩ := t
        intro ih hs hw hw1
        have hw1 : t1 ≤ a * (n + 1) + b := hw1
        apply eX0_addRest
        unfold vX0_addRest_0
        rw [hs.1]
        cases t2 with
        | none =>
          have h0 : t1 = 0 := hw.2
          subst h0
          refine ⟨fun q => absurd rfl q, fun _ => ?_⟩
          rintro _ rfl _ rfl _ rfl
          refine ⟨rfl, ih _ (((hu.put rfl).put rfl).put rfl) (fun k hk2 => ?_) ⟨?_, fun x hx => ?_⟩⟩
          · rw [rd_i (by omega), rd_i (by omega), rd_i (by omega)]; exact hk k hk2
          · rw [rd_s, rd_j (by omega), rd_j (by omega), hs.1]
            rfl
          · cases hx
            rw [rd_j (by omega), rd_j (by omega), rd_s, rd_j (by omega), rd_s]
            exact ⟨rfl, rfl⟩
        | some x =>
          have h0 : 0 < t1 := hw.2.1
          refine ⟨fun _ => ?_, fun q => absurd (nI_ne0 h0 (by omega)) q⟩
          rintro _ rfl
          refine ⟨rfl, ih _ (hu.put rfl) (fun k hk2 => ?_) ⟨?_, fun y hy => ?_⟩⟩
          · rw [rd_i (by omega)]; exact hk k hk2
          · rw [rd_s, nI_1]
          · cases hy
            rw [rd_j (by omega), rd_j (by omega)]
            exact hs.2 x rfl
  have l32 : ∀ a, a ≤ n + 1 → ∀ u, fr aU w u → (∀ k, k ≤ n → u.1 78 k = bgF p k n) → auS (rsO p n a) u → s_Ex (d + 3) 0 mX0_findRests 32 [some (.ref 77), some (.int (nI p)), some (.int (nI n)), some (.int (nI a)), none] [] u (s_V Q) X := by
    refine n_down ?_ ?_
    · intro u hu hk hs
      apply xX0_findRests_32
      unfold vX0_findRests_32
      exact ⟨fun _ => ⟨rfl, h u hu hs⟩, fun z => absurd (nI_lt (show n < n + 1 by omega) (by omega)) z⟩
    · intro a ha ih u hu hk hs
      apply xX0_findRests_32
      unfold vX0_findRests_32
      exact ⟨fun z => absurd z (nI_nlt (by omega) (by omega)), fun _ => l40 a (by omega) ih 0 (by omega) u hu hk hs⟩
  have l7 : ∀ o, o ≤ n + 1 → ∀ u, fr aU w u → u.1 77 1 = 0 → (∀ k, k < o → u.1 78 k = bgF p k n) → s_Ex (d + 3) 0 mX0_findRests 7 [some (.ref 77), some (.int (nI p)), some (.int (nI n)), some (.int (nI o)), none] [] u (s_V Q) X := by
    refine n_down ?_ ?_
    · intro u hu h0 hk
      apply xX0_findRests_7
      unfold vX0_findRests_7
      exact ⟨fun _ => l32 0 (by omega) u hu (fun k hk2 => hk k (by omega)) ⟨h0, fun x hx => by cases hx⟩, fun z => absurd (nI_lt (show n < n + 1 by omega) (by omega)) z⟩
    · intro o ho ih u hu h0 hk
      apply xX0_findRests_7
      unfold vX0_findRests_7
      refine ⟨fun z => absurd z (nI_nlt (by omega) (by omega)), fun _ => K_bestGain hn ⟨(vp_nI (by omega)).mpr (by omega), ?_⟩⟩
      rintro _ rfl
      rw [nI_1, nI_clamp (by omega)]
      refine ih _ (hu.put rfl) (by rw [rd_i (by omega)]; exact h0) (fun k hk2 => ?_)
      rw [rd_e, if_pos rfl]
      split
      · rename_i e; rw [e]
      · exact hk k (by omega)
  apply eX0_findRests
  unfold vX0_findRests_0
  rintro _ rfl
  exact l7 0 (by omega) _ (fr.wr rfl) rd_s (fun k hk => absurd hk (Nat.not_lt_zero _))
theorem R_isBest {d p a o n : Nat} {w : q_Sm} {Q : Int32 → q_Sm → Prop} {X : s_Xo} (hn : n ≤ 20) (ha : a ≤ n) (h1 : gA p a o = bgF p o n → Q (nI 1) w) (h0 : ¬ gA p a o = bgF p o n → Q (nI 0) w) : s_EvI (d + 2) 0 mX12_isBest w [.int (nI p), .int (nI a), .int (nI o), .int (nI n)] Q X := by
  rw [bg_iff ha] at h1 h0
  have loop : ∀ k, k ≤ n + 1 → (∀ j, j < k → gA p j o ≤ gA p a o) → s_Ex (d + 2) 0 mX12_isBest 3 [some (.int (nI p)), some (.int (nI a)), some (.int (nI o)), some (.int (nI n)), some (.int (nI k))] [] w (s_I Q) X := by
    refine n_down ?_ ?_
    · intro hz
      apply xX12_isBest_3
      unfold vX12_isBest_3
      exact ⟨fun _ => ⟨_, rfl, h1 (fun k hk => hz k (by omega))⟩, fun z => absurd (nI_lt (show n < n + 1 by omega) (by omega)) z⟩
    · intro k hk ih hz
      apply xX12_isBest_3
      unfold vX12_isBest_3
      refine ⟨fun z => absurd z (nI_nlt (by omega) (by omega)), fun _ => R_hasOf (R_hasOf ⟨fun z => ?_, fun z => ⟨_, rfl, h0 (fun q => z (q k (by omega)))⟩⟩)⟩
      rw [nI_1]
      refine ih (fun j hj => ?_)
      rcases Nat.lt_or_ge j k with q | q
      · exact hz j q
      · rw [show j = k by omega]; exact z
  apply eX12_isBest
  unfold vX12_isBest_0
  exact loop 0 (by omega) (fun j hj => absurd hj (Nat.not_lt_zero _))
def b7 : Ok2 → Int32
  | none => -1
  | some x => nI (100 * x.1 + x.2)
def b8 (p : Nat) : Ok2 → Int32
  | none => 0
  | some x => gA p x.1 x.2
def bA (p x : Nat) (s : Nat × Ok2) : Int32 := if x = 0 then nI s.1 else if x = 1 then b7 s.2 else b8 p s.2
theorem r_bidsL {d p n x : Nat} {w : q_Sm} {Q : Int32 → q_Sm → Prop} {X : s_Xo} (hn : n ≤ 20) (hx : x < 3) (h : Q (bA p x (rsO p n (n + 1))) w) : s_Ex (d + 3) 0 mX12_bids 72 [none, none, none, some (.int (nI n)), some (.int (nI x)), some (.int (nI p)), some (.int (nI 0)), some (.int (-1)), some (.int (nI 0)), none] [] w (s_I Q) X := by
  have l81 : ∀ a, a ≤ n → (s_Ex (d + 3) 0 mX12_bids 72 [none, none, none, some (.int (nI n)), some (.int (nI x)), some (.int (nI p)), some (.int (nI (rsO p n (a + 1)).1)), some (.int (b7 (rsO p n (a + 1)).2)), some (.int (nI (a + 1))), none] [] w (s_I Q) X) →
      ∀ b, b ≤ n + 1 → s_Ex (d + 3) 0 mX12_bids 81 [none, none, none, some (.int (nI n)), some (.int (nI x)), some (.int (nI p)), some (.int (nI (rsI p n a (rsO p n a) b).1)), some (.int (b7 (rsI p n a (rsO p n a) b).2)), some (.int (nI a)), some (.int (nI b))] [] w (s_I Q) X := by
    intro a ha next
    refine n_down ?_ ?_
    · apply xX12_bids_81
      unfold vX12_bids_81
      rw [nI_1]
      exact ⟨fun _ => next, fun z => absurd (nI_lt (show n < n + 1 by omega) (by omega)) z⟩
    · intro b hb ih
      have hw := rsI_w (p := p) (rsO_w (p := p) (n := n) a (by omega)) ha b (by omega)
      apply xX12_bids_81
      unfold vX12_bids_81
      have e1 : (100 : Int32) * nI a + nI b = nI (100 * a + b) := by rw [L_100, pk_mul, nI_add]
      rw [nI_1 b, nI_1 (rsI p n a (rsO p n a) b).1, e1]
      refine ⟨fun z => absurd z (nI_nlt (by omega) (by omega)), fun _ => R_isBest hn ha (fun q => ?_) (fun q => ?_)⟩
      · refine ⟨fun z => absurd (show nI 1 = nI 0 from z) (by decide), fun _ => R_isBest hn (by omega) (fun q2 => ?_) (fun q2 => ?_)⟩
        · refine ⟨fun _ => ?_, fun z => absurd (show ¬ nI 1 = nI 0 by decide) z⟩
          have e : rsI p n a (rsO p n a) (b + 1) = ((rsI p n a (rsO p n a) b).1 + 1, match (rsI p n a (rsO p n a) b).2 with
            | none => some (a, b)
            | some x => some x) := if_pos ⟨q, q2⟩
          rw [e] at ih
          revert ih hw
          generalize rsI p n a (rsO p n a) b = t
          obtain ⟨t1, t2⟩ := t
          intro ih hw
          cases t2 with
          | none => exact ⟨fun z => absurd rfl z, fun _ => ih⟩
          | some y =>
            have h1 : y.1 ≤ n := hw.2.2.1
            have h2 : y.2 ≤ n := hw.2.2.2
            exact ⟨fun _ => ih, fun z => absurd (fun q3 => (oI_n (show 100 * y.1 + y.2 < 2 ^ 31 by omega)).mp q3) z⟩
        · refine ⟨fun z => absurd rfl z, fun _ => ?_⟩
          have e : rsI p n a (rsO p n a) (b + 1) = rsI p n a (rsO p n a) b := if_neg (fun q3 => q2 q3.2)
          rw [e] at ih
          exact ih
      · refine ⟨fun _ => ?_, fun z => absurd rfl z⟩
        have e : rsI p n a (rsO p n a) (b + 1) = rsI p n a (rsO p n a) b := if_neg (fun q3 => q q3.1)
        rw [e] at ih
        exact ih
  have l72 : ∀ a, a ≤ n + 1 → s_Ex (d + 3) 0 mX12_bids 72 [none, none, none, some (.int (nI n)), some (.int (nI x)), some (.int (nI p)), some (.int (nI (rsO p n a).1)), some (.int (b7 (rsO p n a).2)), some (.int (nI a)), none] [] w (s_I Q) X := by
    refine n_down ?_ ?_
    · have hw := rsO_w (p := p) (n := n) (n + 1) (Nat.le_refl _)
      unfold bA at h
      revert h hw
      generalize rsO p n (n + 1) = t
      obtain ⟨t1, t2⟩ := t
      intro h hw
      apply xX12_bids_72
      unfold vX12_bids_72
      refine ⟨fun _ => ⟨fun z => ⟨fun z1 => ?_, fun z1 => ?_⟩, fun z => ?_⟩, fun z => absurd (nI_lt (show n < n + 1 by omega) (by omega)) z⟩
      · rw [if_neg (fun q => z (by rw [q]; rfl)), if_neg (fun q => z1 (by rw [q]; rfl))] at h
        cases t2 with
        | none => exact ⟨fun z => absurd rfl z, fun _ => ⟨_, rfl, h⟩⟩
        | some y =>
          have h1 : y.1 ≤ n := hw.2.2.1
          have h2 : y.2 ≤ n := hw.2.2.2
          refine ⟨fun _ => R_hasOf ?_, fun z => absurd (fun q3 => (oI_n (show 100 * y.1 + y.2 < 2 ^ 31 by omega)).mp q3) z⟩
          show s_I Q (some (.int (gnI (nI p) (nI (100 * y.1 + y.2) / nI 100) (nI (100 * y.1 + y.2) - nI (100 * y.1 + y.2) / nI 100 * nI 100)))) w
          rw [pk_rem (by omega) (by omega) (by omega), pk_div (by omega) (by omega) (by omega), show (100 * y.1 + y.2) / 100 = y.1 by omega, show (100 * y.1 + y.2) % 100 = y.2 by omega]
          exact ⟨_, rfl, h⟩
      · have z2 : nI x = nI 1 := Decidable.not_not.mp z1
        rw [nI_eq (by omega) (by omega)] at z2
        rw [if_neg (by omega), if_pos z2] at h
        exact ⟨_, rfl, h⟩
      · have z2 : nI x = nI 0 := Decidable.not_not.mp z
        rw [nI_eq (by omega) (by omega)] at z2
        rw [if_pos z2] at h
        exact ⟨_, rfl, h⟩
    · intro a ha ih
      apply xX12_bids_72
      unfold vX12_bids_72
      exact ⟨fun z => absurd z (nI_nlt (by omega) (by omega)), fun _ => l81 a (by omega) ih 0 (by omega)⟩
  exact l72 0 (by omega)
theorem sc_U (i j : Nat) (h : aU i j = true) : scr i j = true := by
  have : i = 77 ∨ i = 78 := by simpa [aU] using h
  rcases this with rfl | rfl <;> rfl
theorem ag_bids (w : q_Sm) (hI : Inv w) (x1 : Int32) (x2 : Int32) (x3 : Int32) (x4 : Int32) : ag_W Inv 998 2 er_I mX11_bids mX12_bids w [.int x1, .int x2, .int x3, .int x4] := by
  obtain ⟨T, β, C, n, S, B, m, hC, hPst, hImg, hTp, hCnt⟩ := id hI
  have hE := hC.2.1
  have ht := hE.2.2.1
  have hRE := hC.2.2.1
  have hnc := tb_nc ht
  have hnd := tb_nd ht
  have hnw := tb_nw ht
  have hS := hC.2.2.2.1
  have hSr := hC.2.2.2.2.1
  have hok := hC.2.2.2.2.2.1
  have hβ := hE.ord
  rcases rng x1 200 (by omega) with ⟨j1, g1, rfl⟩ | e0
  rotate_left
  · have e0 : r_in x1 0 200 = 0 := e0
    refine agW_no hI "java/lang/IllegalArgumentException" (nI 1) 14 1 (by omega) (⟨rfl, rfl⟩) (fun Q X hX => ?_) (fun u hu Q X hQ => ?_)
    · apply eX11_bids
      unfold vX11_bids_0
      refine K_isDusk ?_
      rw [e0]
      exact ⟨fun _ => K_req0 hX, fun z => absurd rfl z⟩
    · have hE1 : RE T C n (q_wI u 79 0 0) := (hRE.n1 hu).t
      have h79 : (q_wI u 79 0 0).1 79 0 = 0 := rd_s
      apply eX12_bids
      unfold vX12_bids_0
      rintro _ rfl
      refine R_isDusk ?_
      rw [e0]
      refine ⟨fun _ => R_no (k := 1) (t := 1) (by omega) (by omega) (by omega) ?_, fun z => absurd rfl z⟩
      first | exact ⟨fun _ => ⟨_, rfl, hQ⟩, fun z => absurd rfl z⟩ | exact ⟨fun z => absurd rfl z, fun _ => ⟨_, rfl, hQ⟩⟩
  have p0 : r_in (nI j1) 0 200 = 1 := r_in1 (a := 0) (b := 200) (by omega) (by omega) (by omega)
  rcases rng x2 3 (by omega) with ⟨j2, g2, rfl⟩ | e1
  rotate_left
  · have e1 : r_in x2 0 3 = 0 := e1
    refine agW_no hI "java/lang/IllegalArgumentException" (nI 1) 14 1 (by omega) (⟨rfl, rfl⟩) (fun Q X hX => ?_) (fun u hu Q X hQ => ?_)
    · apply eX11_bids
      unfold vX11_bids_0
      refine K_isDusk ?_
      rw [p0]
      refine ⟨fun z => absurd z (by decide), fun _ => ?_⟩
      refine K_isColour ?_
      rw [e1]
      exact ⟨fun _ => K_req0 hX, fun z => absurd rfl z⟩
    · have hE1 : RE T C n (q_wI u 79 0 0) := (hRE.n1 hu).t
      have h79 : (q_wI u 79 0 0).1 79 0 = 0 := rd_s
      apply eX12_bids
      unfold vX12_bids_0
      rintro _ rfl
      refine R_isDusk ?_
      rw [p0]
      refine ⟨fun z => absurd z (by decide), fun _ => ?_⟩
      refine R_isColour ?_
      rw [e1]
      refine ⟨fun _ => R_no (k := 1) (t := 1) (by omega) (by omega) (by omega) ?_, fun z => absurd rfl z⟩
      first | exact ⟨fun _ => ⟨_, rfl, hQ⟩, fun z => absurd rfl z⟩ | exact ⟨fun z => absurd rfl z, fun _ => ⟨_, rfl, hQ⟩⟩
  have p1 : r_in (nI j2) 0 3 = 1 := r_in1 (a := 0) (b := 3) (by omega) (by omega) (by omega)
  rcases rng x3 20 (by omega) with ⟨j3, g3, rfl⟩ | e2
  rotate_left
  · have e2 : r_in x3 0 20 = 0 := e2
    refine agW_no hI "java/lang/IllegalArgumentException" (nI 1) 14 1 (by omega) (⟨rfl, rfl⟩) (fun Q X hX => ?_) (fun u hu Q X hQ => ?_)
    · apply eX11_bids
      unfold vX11_bids_0
      refine K_isDusk ?_
      rw [p0]
      refine ⟨fun z => absurd z (by decide), fun _ => ?_⟩
      refine K_isColour ?_
      rw [p1]
      refine ⟨fun z => absurd z (by decide), fun _ => K_req1 ?_⟩
      refine K_isIn ?_
      rw [e2]
      exact ⟨fun _ => K_req0 hX, fun z => absurd rfl z⟩
    · have hE1 : RE T C n (q_wI u 79 0 0) := (hRE.n1 hu).t
      have h79 : (q_wI u 79 0 0).1 79 0 = 0 := rd_s
      apply eX12_bids
      unfold vX12_bids_0
      rintro _ rfl
      refine R_isDusk ?_
      rw [p0]
      refine ⟨fun z => absurd z (by decide), fun _ => ?_⟩
      refine R_isColour ?_
      rw [p1]
      refine ⟨fun z => absurd z (by decide), fun _ => ?_⟩
      refine R_within ?_
      rw [e2]
      refine ⟨fun _ => R_no (k := 1) (t := 1) (by omega) (by omega) (by omega) ?_, fun z => absurd rfl z⟩
      first | exact ⟨fun _ => ⟨_, rfl, hQ⟩, fun z => absurd rfl z⟩ | exact ⟨fun z => absurd rfl z, fun _ => ⟨_, rfl, hQ⟩⟩
  have p2 : r_in (nI j3) 0 20 = 1 := r_in1 (a := 0) (b := 20) (by omega) (by omega) (by omega)
  rcases rng x4 2 (by omega) with ⟨j4, g4, rfl⟩ | e3
  rotate_left
  · have e3 : r_in x4 0 2 = 0 := e3
    refine agW_no hI "java/lang/IllegalArgumentException" (nI 1) 14 1 (by omega) (⟨rfl, rfl⟩) (fun Q X hX => ?_) (fun u hu Q X hQ => ?_)
    · apply eX11_bids
      unfold vX11_bids_0
      refine K_isDusk ?_
      rw [p0]
      refine ⟨fun z => absurd z (by decide), fun _ => ?_⟩
      refine K_isColour ?_
      rw [p1]
      refine ⟨fun z => absurd z (by decide), fun _ => K_req1 ?_⟩
      refine K_isIn ?_
      rw [p2]
      refine ⟨fun z => absurd z (by decide), fun _ => ?_⟩
      refine K_isIn ?_
      rw [e3]
      exact ⟨fun _ => K_req0 hX, fun z => absurd rfl z⟩
    · have hE1 : RE T C n (q_wI u 79 0 0) := (hRE.n1 hu).t
      have h79 : (q_wI u 79 0 0).1 79 0 = 0 := rd_s
      apply eX12_bids
      unfold vX12_bids_0
      rintro _ rfl
      refine R_isDusk ?_
      rw [p0]
      refine ⟨fun z => absurd z (by decide), fun _ => ?_⟩
      refine R_isColour ?_
      rw [p1]
      refine ⟨fun z => absurd z (by decide), fun _ => ?_⟩
      refine R_within ?_
      rw [p2]
      refine ⟨fun z => absurd z (by decide), fun _ => ?_⟩
      refine R_within ?_
      rw [e3]
      refine ⟨fun _ => R_no (k := 1) (t := 1) (by omega) (by omega) (by omega) ?_, fun z => absurd rfl z⟩
      first | exact ⟨fun _ => ⟨_, rfl, hQ⟩, fun z => absurd rfl z⟩ | exact ⟨fun z => absurd rfl z, fun _ => ⟨_, rfl, hQ⟩⟩
  have p3 : r_in (nI j4) 0 2 = 1 := r_in1 (a := 0) (b := 2) (by omega) (by omega) (by omega)
  refine agW_ok (bA (m_light T j1 j2) j4 (rsO (m_light T j1 j2) j3 (j3 + 1))) hI (fun Q X hQ => ?_) (fun u hu Q X hQ => ?_)
  · apply eX11_bids
    unfold vX11_bids_0
    refine K_isDusk ?_
    rw [p0]
    refine ⟨fun z => absurd z (by decide), fun _ => ?_⟩
    refine K_isColour ?_
    rw [p1]
    refine ⟨fun z => absurd z (by decide), fun _ => K_req1 ?_⟩
    refine K_isIn ?_
    rw [p2]
    refine ⟨fun z => absurd z (by decide), fun _ => ?_⟩
    refine K_isIn ?_
    rw [p3]
    refine ⟨fun z => absurd z (by decide), fun _ => K_req1 ?_⟩
    have hl := m_light_le ht j1 (k := j2) (by omega)
    refine ⟨ia_0 hE.1, K_shine hE (by omega) (by omega) (K_findRests (by omega) (fun u hu hs => ?_))⟩
    have fin := hQ u (hu.mono sc_U)
    have hw := rsO_w (p := m_light T j1 j2) (n := j3) (j3 + 1) (Nat.le_refl _)
    have hc : (j3 + 1) * (j3 + 1) ≤ 21 * 21 := Nat.mul_le_mul (by omega) (by omega)
    unfold bA at fin
    revert fin hw hs
    generalize rsO (m_light T j1 j2) j3 (j3 + 1) = t
    obtain ⟨t1, t2⟩ := t
    intro hs fin hw
    have hw1 : t1 ≤ (j3 + 1) * (j3 + 1) := hw.1
    simp only [ti_0, ti_1]
    rw [hs.1]
    refine ⟨fun z => ⟨_, rfl, ?_⟩, fun z => ?_, fun z => ?_⟩
    · have z2 : nI j4 = nI 0 := z
      rw [nI_eq (by omega) (by omega)] at z2
      rw [if_pos z2] at fin
      exact fin
    · have z2 : nI j4 = nI 1 := z
      rw [nI_eq (by omega) (by omega)] at z2
      rw [if_neg (by omega), if_pos z2] at fin
      cases t2 with
      | none =>
        have h0 : t1 = 0 := hw.2
        subst h0
        exact ⟨fun q => absurd rfl q, fun _ => ⟨_, rfl, fin⟩⟩
      | some y =>
        have h0 : 0 < t1 := hw.2.1
        refine ⟨fun _ => ⟨_, rfl, ?_⟩, fun q => absurd (nI_ne0 h0 (by omega)) q⟩
        rw [(hs.2 y rfl).1, (hs.2 y rfl).2, L_100, pk_mul, nI_add]
        exact fin
    · rw [if_neg (fun q => z.1 (by rw [q]; rfl)), if_neg (fun q => z.2 (by rw [q]; rfl))] at fin
      cases t2 with
      | none =>
        have h0 : t1 = 0 := hw.2
        subst h0
        exact ⟨fun q => absurd rfl q, fun _ => ⟨_, rfl, fin⟩⟩
      | some y =>
        have h0 : 0 < t1 := hw.2.1
        refine ⟨fun _ => ?_, fun q => absurd (nI_ne0 h0 (by omega)) q⟩
        rw [(hs.2 y rfl).1, (hs.2 y rfl).2]
        exact K_gain ⟨_, rfl, fin⟩
  · have hCu := hC.sim hu
    have hE1 : RE T C n (q_wI u 79 0 0) := hCu.2.2.1.t
    have h79 : (q_wI u 79 0 0).1 79 0 = 0 := rd_s
    have hS1 : rR 104 S (q_wI u 79 0 0) := hCu.2.2.2.2.1.eq (fun j => rd_i (by omega))
    have hf1 : fr scr u (q_wI u 79 0 0) := scr_t
    apply eX12_bids
    unfold vX12_bids_0
    intro w1 hw1
    rw [← hw1] at hE1 h79 hS1 hf1
    refine R_isDusk ?_
    rw [p0]
    refine ⟨fun z => absurd z (by decide), fun _ => ?_⟩
    refine R_isColour ?_
    rw [p1]
    refine ⟨fun z => absurd z (by decide), fun _ => ?_⟩
    refine R_within ?_
    rw [p2]
    refine ⟨fun z => absurd z (by decide), fun _ => ?_⟩
    refine R_within ?_
    rw [p3]
    refine ⟨fun z => absurd z (by decide), fun _ => R_may1 h79 ?_⟩
    first | refine ⟨fun z => absurd z (by decide), fun _ => ?_⟩ | refine ⟨fun _ => ?_, fun z => absurd (show ¬ (1 : Int32) = 0 by decide) z⟩
    exact R_lightOf hE1 (by omega) (by omega) (r_bidsL (by omega) (by omega) (hQ _ hf1 h79))
