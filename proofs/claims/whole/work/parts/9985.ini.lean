/-! the beginning -/
def inz (i j : Nat) : Bool := (i == 2 && j == 6) || (i == 36 && j == 1) || (i == 40 && j == 1) || (i == 37 && decide (j < 5)) || (i == 41 && decide (j < 5)) || (i == 79 && j == 8)
theorem ini_z : ∀ i, i < 117 → ∀ j, j < 67 → (inz i j || decide (ini_1.1 i j = 0)) = true := by decide +kernel
theorem ini_c {i j : Nat} (hi : i < 117) (hj : j < 67) (h : inz i j = false) : ini_u.1 i j = nI 0 := by
  have := ini_z i hi j hj
  rw [h, Bool.false_or] at this
  exact of_decide_eq_true this
theorem ini_law : ini_1.1 36 1 = nI 5 ∧ (∀ k, k < 5 → ini_1.1 37 k = cc (plC k)) ∧ ini_1.1 2 6 = ini_1.1 79 8 := by decide +kernel
