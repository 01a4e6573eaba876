/-! what the memory stands for -/
/-- the first n ints of cell c are those numbers -/
def holds (c n : Nat) (f : Nat → Nat) (w : q_Sm) : Prop := ∀ k, k < n → w.1 c k = nI (f k)
/-- the class's row in the reference's -/
def pm (k : Nat) : Nat := if k < 20 then k else if k < 40 then k + 10 else if k < 50 then k - 20 else if k < 58 then k else 62
abbrev Tb : Type := Nat → Nat → Nat
/-- what a told coast keeps to -/
def tb (T : Tb) : Prop := (T 7 0 ≤ 6 ∧ T 7 1 ≤ 10 ∧ T 7 2 ≤ 12 ∧ T 7 3 ≤ 6 ∧ T 7 4 ≤ 16) ∧ (∀ c, c < T 7 0 → T 0 (2 * c) < 20 ∧ T 0 (2 * c + 1) ≤ 20) ∧
  (∀ d, d < T 7 1 → T 1 (5 * d) < T 7 0 ∧ T 1 (5 * d + 1) < 4 ∧ 1 ≤ T 1 (5 * d + 2) ∧ T 1 (5 * d + 2) ≤ 99 ∧ T 1 (5 * d + 3) ≤ 16 ∧ T 1 (5 * d + 4) ≤ 60) ∧ (∀ k, k < 4 * T 7 2 → T 2 k ≤ 40) ∧ (∀ x, x < 20 → T 3 x ≤ 20) ∧ (∀ k, k < 4 → T 4 k ≤ 99) ∧
  (∀ v, v < T 7 3 → T 5 (3 * v) < 4 ∧ 1 ≤ T 5 (3 * v + 1) ∧ T 5 (3 * v + 1) ≤ 40 ∧ T 5 (3 * v + 2) ≤ 60) ∧ (∀ k, k < 36 → T 6 k ≤ 999) ∧ ∀ c o, c < 6 → o < 6 → T 7 0 ≤ c ∨ T 7 0 ≤ o → T 6 (6 * c + o) = 0
/-- the reference's told coast -/
def rT (T : Tb) (w : q_Sm) : Prop := (w.1 79 29 = nI (T 7 0) ∧ w.1 79 30 = nI (T 7 1) ∧ w.1 79 31 = nI (T 7 2) ∧ w.1 79 32 = nI (T 7 3) ∧ w.1 79 33 = nI (T 7 4)) ∧
  holds 89 (2 * T 7 0) (T 0) w ∧ holds 90 (5 * T 7 1) (T 1) w ∧ holds 91 (4 * T 7 2) (T 2) w ∧ holds 92 20 (T 3) w ∧ holds 93 4 (T 4) w ∧ holds 94 (3 * T 7 3) (T 5) w ∧ holds 95 36 (T 6) w
/-- one debt ahead of another, by the day, then by the number -/
def ahead (T : Tb) (d e : Nat) : Prop := T 1 (5 * d + 4) < T 1 (5 * e + 4) ∨ (T 1 (5 * d + 4) = T 1 (5 * e + 4) ∧ d < e)
def ordered (T : Tb) (β : Nat → Nat) : Prop := (∀ i, i < T 7 1 → β i < T 7 1) ∧ ∀ i j, i < j → j < T 7 1 → ahead T (β i) (β j)
/-- the class's told coast, at its cell -/
def cT (o : Nat) (T : Tb) (β : Nat → Nat) (w : q_Sm) : Prop := (w.1 o 0 = nI (T 7 0) ∧ w.1 o 3 = nI (T 7 1) ∧ w.1 o 10 = nI (T 7 2) ∧ w.1 o 14 = nI (T 7 3) ∧ w.1 o 18 = nI (T 7 4)) ∧
  (holds (o + 1) (T 7 0) (fun c => T 0 (2 * c)) w ∧ holds (o + 2) (T 7 0) (fun c => T 0 (2 * c + 1)) w) ∧
  (holds (o + 3) (T 7 1) (fun d => T 1 (5 * d)) w ∧ holds (o + 4) (T 7 1) (fun d => T 1 (5 * d + 1)) w ∧ holds (o + 5) (T 7 1) (fun d => T 1 (5 * d + 2)) w ∧ holds (o + 6) (T 7 1) (fun d => T 1 (5 * d + 3)) w ∧ holds (o + 7) (T 7 1) (fun d => T 1 (5 * d + 4)) w ∧ holds (o + 8) (T 7 1) β w ∧ ordered T β) ∧
  holds (o + 9) (4 * T 7 2) (T 2) w ∧ holds (o + 10) 20 (T 3) w ∧ holds (o + 11) 4 (T 4) w ∧ (holds (o + 12) (T 7 3) (fun v => T 5 (3 * v)) w ∧ holds (o + 13) (T 7 3) (fun v => T 5 (3 * v + 1)) w ∧ holds (o + 14) (T 7 3) (fun v => T 5 (3 * v + 2)) w) ∧ holds (o + 15) 36 (T 6) w
def m_light (T : Tb) (e k : Nat) : Nat := if T 7 2 = 0 then 0 else T 2 (4 * (e % T 7 2) + k)
theorem m_light_le {T : Tb} (ht : tb T) (e : Nat) {k : Nat} (hk : k < 4) : m_light T e k ≤ 40 := by
  unfold m_light
  split
  · omega
  · rename_i h
    have h1 : e % T 7 2 < T 7 2 := Nat.mod_lt _ (by omega)
    exact ht.2.2.2.1 _ (by omega)
theorem nI_z0 {n : Nat} (h : n < 2 ^ 31) : (nI n = 0) ↔ n = 0 := nI_eq (b := 0) h (by decide)
theorem r_lightOf {d e k : Nat} {T : Tb} {w : q_Sm} {X : s_Xo} (ht : tb T) (hT : rT T w) (he : e < 2 ^ 31) (hk : k < 4) : s_EvI (d + 1) 0 mX12_lightOf w [.ref 79, .int (nI e), .int (nI k)] (fun v u => v = nI (m_light T e k) ∧ u = w) X := by
  apply eX12_lightOf
  unfold vX12_lightOf_0
  obtain ⟨⟨-, -, h31, -⟩, -, -, h91, -⟩ := hT
  have hb := ht.1.2.2.1
  rw [h31]
  refine ⟨fun hn => ⟨hn, ?_⟩, fun hn => ⟨_, rfl, ?_, rfl⟩⟩
  · have hp : 0 < T 7 2 := by
      rcases Nat.eq_zero_or_pos (T 7 2) with q | q
      · exact absurd ((nI_z0 (by omega)).mpr q) hn
      · exact q
    have hm : e % T 7 2 < T 7 2 := Nat.mod_lt _ hp
    have e1 : (4 : Int32) * (nI e - nI e / nI (T 7 2) * nI (T 7 2)) + nI k = nI (4 * (e % T 7 2) + k) := by
      rw [pk_rem he hp (by omega), show (4 : Int32) = nI 4 from rfl, pk_mul, nI_add]
    rw [e1, nI_clamp (by omega), h91 _ (by omega)]
    refine ⟨vp_in_nI (by omega) (by decide), _, rfl, ?_, rfl⟩
    unfold m_light
    rw [if_neg (by omega)]
  · have h0 : T 7 2 = 0 := by
      rcases Nat.eq_zero_or_pos (T 7 2) with q | q
      · exact q
      · exact absurd (fun h => absurd ((nI_z0 (by omega)).mp h) (by omega)) hn
    unfold m_light
    rw [if_pos h0]
    rfl
theorem q_co {o : Nat} (ho : o = 4 ∨ o = 20) : q_id 116 2 o ∧ q_id 116 14 (o + 9) ∧ (q_sh (o + 9)).2 = 48 := by
  rcases ho with rfl | rfl
  · exact ⟨q_id_of rfl, q_id_of rfl, rfl⟩
  · exact ⟨q_id_of rfl, q_id_of rfl, rfl⟩
theorem k_shine {d e k o : Nat} {T : Tb} {β : Nat → Nat} {w : q_Sm} {X : s_Xo} (ho : o = 4 ∨ o = 20) (ht : tb T) (hT : cT o T β w) (he : e < 2 ^ 31) (hk : k < 4) : s_EvI (d + 1) 0 mX2_shine w [.ref o, .int (nI e), .int (nI k)] (fun v u => v = nI (m_light T e k) ∧ u = w) X := by
  apply eX2_shine
  unfold vX2_shine_0
  obtain ⟨⟨-, -, h10, -⟩, -, -, h9, -⟩ := hT
  obtain ⟨q1, q2, q3⟩ := q_co ho
  have hb := ht.1.2.2.1
  rw [h10, q3]
  refine ⟨q1, fun hn => ⟨_, rfl, ?_, rfl⟩, fun hn => ⟨fun _ => ⟨q1, q1, ?_⟩, fun hn2 => absurd (show nI 0 ≤ nI e from nI_le (Nat.zero_le _) he) hn2⟩⟩
  · have h0 : T 7 2 = 0 := by
      rcases Nat.eq_zero_or_pos (T 7 2) with q | q
      · exact q
      · exact absurd (show nI (T 7 2) ≤ nI 0 from hn) (nI_ge q (by omega))
    unfold m_light
    rw [if_pos h0]
    rfl
  · have hp : 0 < T 7 2 := by
      rcases Nat.eq_zero_or_pos (T 7 2) with q | q
      · exact absurd (show nI (T 7 2) ≤ nI 0 from nI_le (by omega) (by omega)) hn
      · exact q
    have hm : e % T 7 2 < T 7 2 := Nat.mod_lt _ hp
    have e1 : (nI e - nI e / nI (T 7 2) * nI (T 7 2)) * 4 + nI k = nI (4 * (e % T 7 2) + k) := by
      rw [pk_rem he hp (by omega), show (4 : Int32) = nI 4 from rfl, pk_mul, nI_add, Nat.mul_comm]
    rw [e1, nI_clamp (by omega), h9 _ (by omega)]
    refine ⟨fun h => absurd ((nI_z0 (by omega)).mp h) (by omega), q2, vp_in_nI (by omega) (by decide), _, rfl, ?_, rfl⟩
    unfold m_light
    rw [if_neg (by omega)]
