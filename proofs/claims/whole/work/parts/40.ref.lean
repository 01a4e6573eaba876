/-! specs of the reference's small methods -/
def q_sum (f : Nat → Int32) : Nat → Int32
  | 0 => 0
  | n + 1 => q_sum f n + f n
def r_in (x a b : Int32) : Int32 := if x < a ∨ b < x then 0 else 1
theorem r_within {d : Nat} {x a b : Int32} {w : q_Sm} {X : s_Xo} : s_EvI (d + 1) 0 mX12_within w [.int x, .int a, .int b] (fun v u => v = r_in x a b ∧ u = w) X := by
  apply eX12_within
  unfold vX12_within_0
  refine ⟨fun h => ⟨_, rfl, ?_, rfl⟩, fun h => ⟨fun h2 => ⟨_, rfl, ?_, rfl⟩, fun h2 => ⟨_, rfl, ?_, rfl⟩⟩⟩
  · simp [r_in, h]
  · simp [r_in, h2]
  · simp [r_in, h, h2]
theorem r_colourOf {d : Nat} {i : Nat} (hi : i < 10) {w : q_Sm} {X : s_Xo} : s_EvI (d + 1) 0 mX12_colourOf w [.ref 79, .int (nI i)] (fun v u => v = w.1 90 (5 * i + 1) ∧ u = w) X := by
  apply eX12_colourOf
  unfold vX12_colourOf_0
  have e1 : (5 : Int32) * nI i + 1 = nI (5 * i + 1) := by
    rw [show (5 : Int32) = nI 5 from rfl, show (1 : Int32) = nI 1 from rfl, pk_mul, nI_add]
  rw [e1, nI_clamp (by omega)]
  exact ⟨vp_in_nI (by omega) (by decide), _, rfl, rfl, rfl⟩
theorem r_lastOf {d : Nat} {i : Nat} (hi : i < 10) {w : q_Sm} {X : s_Xo} : s_EvI (d + 1) 0 mX12_lastOf w [.ref 79, .int (nI i)] (fun v u => v = w.1 90 (5 * i + 4) ∧ u = w) X := by
  apply eX12_lastOf
  unfold vX12_lastOf_0
  have e1 : (5 : Int32) * nI i + 4 = nI (5 * i + 4) := by
    rw [show (5 : Int32) = nI 5 from rfl, show (4 : Int32) = nI 4 from rfl, pk_mul, nI_add]
  rw [e1, nI_clamp (by omega)]
  exact ⟨vp_in_nI (by omega) (by decide), _, rfl, rfl, rfl⟩
theorem r_owedAll {d n : Nat} {w : q_Sm} {X : s_Xo} (hn : w.1 79 30 = nI n) (h10 : n ≤ 10) : s_EvI (d + 1) 0 mX12_owedAll w [.ref 79] (fun v u => v = q_sum (w.1 105) n ∧ u = w) X := by
  apply eX12_owedAll
  unfold vX12_owedAll_0
  have loop : ∀ j i : Nat, i + j = n → s_Ex (d + 1) 0 mX12_owedAll 4 [some (.ref 79), some (.int (q_sum (w.1 105) i)), some (.int (nI i))] [] w (s_I (fun v u => v = q_sum (w.1 105) n ∧ u = w)) X := by
    intro j
    induction j with
    | zero =>
      intro i hi
      have hi : i = n := by omega
      subst hi
      apply xX12_owedAll_4
      unfold vX12_owedAll_4
      rw [hn]
      exact ⟨fun _ => ⟨_, rfl, rfl, rfl⟩, fun h => absurd (nI_le (Nat.le_refl _) (by omega)) h⟩
    | succ j ih =>
      intro i hi
      apply xX12_owedAll_4
      unfold vX12_owedAll_4
      rw [hn]
      refine ⟨fun h => absurd h (nI_ge (by omega) (by omega)), fun _ => ?_⟩
      rw [Int32.zero_add, nI_clamp (by omega), nI_1]
      exact ⟨vp_in_nI (by omega) (by decide), ih (i + 1) (by omega)⟩
  exact loop n 0 (by omega)
