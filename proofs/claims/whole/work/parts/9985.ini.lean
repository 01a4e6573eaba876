/-! the beginning -/
def inz (i j : Nat) : Bool := (i == 2 && j == 6) || (i == 36 && j == 1) || (i == 40 && j == 1) || (i == 37 && decide (j < 5)) || (i == 41 && decide (j < 5)) || (i == 79 && j == 8)
theorem ini_z : ∀ i, i < 117 → ∀ j, j < 67 → (inz i j || decide (ini_1.1 i j = 0)) = true := by decide +kernel
theorem ini_c {i j : Nat} (hi : i < 117) (hj : j < 67) (h : inz i j = false) : ini_u.1 i j = nI 0 := by
  have := ini_z i hi j hj
  rw [h, Bool.false_or] at this
  exact of_decide_eq_true this
theorem ini_law : ini_1.1 36 1 = nI 5 ∧ (∀ k, k < 5 → ini_1.1 37 k = cc (plC k)) ∧ ini_1.1 2 6 = ini_1.1 79 8 := by decide +kernel
theorem ini_75 : ini_1.2.1 75 0 = 0 := by decide +kernel
theorem pl_lwf : lwf plC 5 := by
  refine ⟨⟨by decide, by decide⟩, ?_, by decide⟩
  have : ∀ k, k < 5 → (plC k < 1007 ∨ (2002 ≤ plC k ∧ plC k ≤ 2007 ∧ 2 ≤ dp plC k)) ∧ dp plC k < 40 := by decide
  exact this
theorem Inv_ini : Inv ini_u := by
  have hold : ∀ c n, c < 117 → n ≤ 67 → (∀ k, k < n → inz c k = false) → holds c n (fun _ => 0) ini_u := fun c n hc hn hz k hk => ini_c hc (by omega) (hz k hk)
  have e0 : ∀ c k, c < 117 → k < 67 → inz c k = false → ini_u.1 c k = nI 0 := fun c k h1 h2 h3 => ini_c h1 h2 h3
  have ht : tb (fun _ _ => 0) := by
    refine ⟨⟨by decide, by decide, by decide, by decide, by decide⟩, fun c hc => absurd hc (Nat.not_lt_zero _), fun d hd => absurd hd (Nat.not_lt_zero _), fun k hk => absurd hk (Nat.not_lt_zero _), fun x _ => Nat.zero_le _, fun k _ => Nat.zero_le _, fun v hv => absurd hv (Nat.not_lt_zero _), fun k _ => Nat.zero_le _, fun c o _ _ _ => rfl⟩
  have z1 : ∀ c n (f : Nat → Nat), n = 0 → holds c n f ini_u := fun c n f h k hk => absurd hk (by omega)
  refine ⟨fun _ _ => 0, fun _ => 0, plC, 5, fun _ => 0, fun _ => 0, 0, ⟨?_, ?_, ?_, ?_, ?_, ?_, ?_, ?_⟩, ?_, ?_, ?_, ?_⟩
  · exact ⟨Or.inl ⟨rfl, rfl⟩, Or.inl ⟨rfl, rfl⟩, Or.inl ⟨rfl, rfl⟩⟩
  · refine ⟨Or.inl rfl, Or.inl rfl, ht, ⟨⟨e0 4 0 (by decide) (by decide) (by decide), e0 4 3 (by decide) (by decide) (by decide), e0 4 10 (by decide) (by decide) (by decide), e0 4 14 (by decide) (by decide) (by decide), e0 4 18 (by decide) (by decide) (by decide)⟩, ⟨z1 _ _ _ rfl, z1 _ _ _ rfl⟩, ⟨z1 _ _ _ rfl, z1 _ _ _ rfl, z1 _ _ _ rfl, z1 _ _ _ rfl, z1 _ _ _ rfl, z1 _ _ _ rfl, fun i hi => absurd hi (Nat.not_lt_zero _), fun i j _ hj => absurd hj (Nat.not_lt_zero _)⟩, z1 _ _ _ rfl, hold 14 20 (by decide) (by decide) (fun k _ => by simp [inz]), hold 15 4 (by decide) (by decide) (fun k _ => by simp [inz]), ⟨z1 _ _ _ rfl, z1 _ _ _ rfl, z1 _ _ _ rfl⟩, hold 19 36 (by decide) (by decide) (fun k _ => by simp [inz])⟩, pl_lwf, ini_law.1, fun k hk => ini_law.2.1 k hk⟩
  · exact ⟨ht, ⟨⟨e0 79 29 (by decide) (by decide) (by decide), e0 79 30 (by decide) (by decide) (by decide), e0 79 31 (by decide) (by decide) (by decide), e0 79 32 (by decide) (by decide) (by decide), e0 79 33 (by decide) (by decide) (by decide)⟩, z1 _ _ _ rfl, z1 _ _ _ rfl, z1 _ _ _ rfl, hold 92 20 (by decide) (by decide) (fun k _ => by simp [inz]), hold 93 4 (by decide) (by decide) (fun k _ => by simp [inz]), z1 _ _ _ rfl, hold 95 36 (by decide) (by decide) (fun k _ => by simp [inz])⟩, pl_lwf, Or.inl ⟨e0 79 40 (by decide) (by decide) (by decide), rfl, rfl⟩⟩
  · exact fun k hk => e0 57 k (by decide) (by omega) (by simp [inz])
  · exact fun k hk => e0 104 k (by decide) (by omega) (by simp [inz])
  · exact ⟨⟨⟨fun d hd => absurd hd (Nat.not_lt_zero _), fun k _ => ⟨Nat.zero_le _, Nat.zero_le _⟩, Nat.zero_le _⟩, Nat.zero_le _⟩, fun k _ => rfl⟩
  · refine ⟨?_, fun v hv => absurd hv (Nat.not_lt_zero _)⟩
    have : mm (fun _ _ => 0) = 0 := by
      have hp := aw_pc (n := 0) (f := 0) (by omega) (by omega)
      unfold mm mm1 allw
      show pc (2 ^ 0 - 2 ^ 0) - _ = 0
      rw [hp]
      omega
    rw [this]
    exact e0 73 3 (by decide) (by decide) (by decide)
  · exact ⟨by omega, e0 44 0 (by decide) (by decide) (by decide), e0 79 55 (by decide) (by decide) (by decide), fun i hi => absurd hi (by omega)⟩
  · exact ⟨0, fun _ _ => 0, by omega, e0 58 1 (by decide) (by decide) (by decide), e0 79 45 (by decide) (by decide) (by decide), fun i hi => absurd hi (by omega)⟩
  · exact ⟨0, by omega, e0 1 11 (by decide) (by decide) (by decide), e0 79 66 (by decide) (by decide) (by decide), fun i hi => absurd hi (by omega)⟩
  · exact ⟨0, fun _ => 0, by omega, e0 2 1 (by decide) (by decide) (by decide), e0 79 2 (by decide) (by decide) (by decide), fun k hk => absurd hk (by omega)⟩
  · exact ⟨(e0 1 13 (by decide) (by decide) (by decide)).trans (e0 80 0 (by decide) (by decide) (by decide)).symm, (e0 1 14 (by decide) (by decide) (by decide)).trans (e0 80 1 (by decide) (by decide) (by decide)).symm, (e0 1 12 (by decide) (by decide) (by decide)).trans (e0 79 46 (by decide) (by decide) (by decide)).symm, ini_law.2.2, ini_75⟩
