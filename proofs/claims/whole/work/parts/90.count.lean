/-! Long.bitCount counts bits -/
theorem and8 {a b c d : Nat} (ha : a < 256) (hc : c < 256) : (a + 256 * b) &&& (c + 256 * d) = (a &&& c) + 256 * (b &&& d) := by
  have hac : a &&& c < 2 ^ 8 := Nat.and_lt_two_pow _ (by omega)
  apply Nat.eq_of_testBit_eq
  intro i
  have e1 : a + 256 * b = 2 ^ 8 * b + a := by omega
  have e2 : c + 256 * d = 2 ^ 8 * d + c := by omega
  have e3 : (a &&& c) + 256 * (b &&& d) = 2 ^ 8 * (b &&& d) + (a &&& c) := by omega
  rw [Nat.testBit_and, e1, e2, e3, Nat.testBit_two_pow_mul_add _ (show a < 2 ^ 8 by omega), Nat.testBit_two_pow_mul_add _ (show c < 2 ^ 8 by omega), Nat.testBit_two_pow_mul_add _ hac]
  split
  · rw [Nat.testBit_and]
  · rw [Nat.testBit_and]
def mkM (b : Nat) : Nat → Nat
  | 0 => 0
  | n + 1 => b + 256 * mkM b n
def dM (g : Nat → Nat) : Nat → Nat → Nat
  | 0, _ => 0
  | n + 1, x => g (x % 256) + 256 * dM g n (x / 256)
theorem dM_lt {g : Nat → Nat} (hg : ∀ b, b < 256 → g b < 256) : ∀ n x, dM g n x < 256 ^ n := by
  intro n
  induction n with
  | zero => intro x; simp [dM]
  | succ n ih =>
    intro x
    have h1 := hg (x % 256) (Nat.mod_lt _ (by omega))
    have h2 := ih (x / 256)
    show g (x % 256) + 256 * dM g n (x / 256) < 256 ^ (n + 1)
    rw [Nat.pow_succ]
    omega
theorem dM_dM {g h : Nat → Nat} (hg : ∀ b, b < 256 → g b < 256) : ∀ n x, dM h n (dM g n x) = dM (fun b => h (g b)) n x := by
  intro n
  induction n with
  | zero => intro x; rfl
  | succ n ih =>
    intro x
    have h1 := hg (x % 256) (Nat.mod_lt _ (by omega))
    show h ((g (x % 256) + 256 * dM g n (x / 256)) % 256) + 256 * dM h n ((g (x % 256) + 256 * dM g n (x / 256)) / 256) = h (g (x % 256)) + 256 * dM (fun b => h (g b)) n (x / 256)
    rw [show (g (x % 256) + 256 * dM g n (x / 256)) % 256 = g (x % 256) by omega, show (g (x % 256) + 256 * dM g n (x / 256)) / 256 = dM g n (x / 256) by omega, ih]
theorem dM_c {g h : Nat → Nat} (hg : ∀ b, b < 256 → g b = h b) : ∀ n x, dM g n x = dM h n x := by
  intro n
  induction n with
  | zero => intro x; rfl
  | succ n ih =>
    intro x
    show g (x % 256) + 256 * dM g n (x / 256) = h (x % 256) + 256 * dM h n (x / 256)
    rw [hg _ (Nat.mod_lt _ (by omega)), ih]
theorem dM_add (g h : Nat → Nat) : ∀ n x, dM g n x + dM h n x = dM (fun b => g b + h b) n x := by
  intro n
  induction n with
  | zero => intro x; rfl
  | succ n ih =>
    intro x
    have := ih (x / 256)
    show g (x % 256) + 256 * dM g n (x / 256) + (h (x % 256) + 256 * dM h n (x / 256)) = g (x % 256) + h (x % 256) + 256 * dM (fun b => g b + h b) n (x / 256)
    omega
theorem dM_id : ∀ n x, x < 256 ^ n → dM (fun b => b) n x = x := by
  intro n
  induction n with
  | zero => intro x hx; simp at hx; subst hx; rfl
  | succ n ih =>
    intro x hx
    rw [Nat.pow_succ] at hx
    show x % 256 + 256 * dM (fun b => b) n (x / 256) = x
    rw [ih (x / 256) (by omega)]
    omega
/-- a mask, digit by digit, of a number that was shifted -/
theorem st_sh {s m : Nat} (hs : s ≤ 8) (hm : m < 256) (hcr : ∀ a, a < 256 → ∀ c, c < 2 ^ s → (a / 2 ^ s + 2 ^ (8 - s) * c) &&& m = (a / 2 ^ s) &&& m) : ∀ n x, x < 256 ^ n → (x / 2 ^ s) &&& mkM m n = dM (fun b => (b / 2 ^ s) &&& m) n x := by
  have hp : (2 : Nat) ^ s * 2 ^ (8 - s) = 256 := by rw [← Nat.pow_add, show s + (8 - s) = 8 by omega]
  have hps : 0 < (2 : Nat) ^ s := Nat.pos_of_ne_zero (by simp)
  intro n
  induction n with
  | zero => intro x _; simp [mkM, dM]
  | succ n ih =>
    intro x hx
    rw [Nat.pow_succ] at hx
    have hy : x / 256 < 256 ^ n := by omega
    have ha : x % 256 < 256 := Nat.mod_lt _ (by omega)
    have e1 : x / 2 ^ s = ((x % 256) / 2 ^ s + 2 ^ (8 - s) * ((x / 256) % 2 ^ s)) + 256 * (x / 256 / 2 ^ s) := by
      have h1 : x = x % 256 + 2 ^ s * (2 ^ (8 - s) * (x / 256)) := by rw [← Nat.mul_assoc, hp]; omega
      have h2 : x / 2 ^ s = (x % 256) / 2 ^ s + 2 ^ (8 - s) * (x / 256) := by
        conv => lhs; rw [h1]
        rw [Nat.add_mul_div_left _ _ hps]
      have h3 : x / 256 = (x / 256) % 2 ^ s + 2 ^ s * (x / 256 / 2 ^ s) := (Nat.mod_add_div _ _).symm
      have h4 : 2 ^ (8 - s) * (x / 256) = 2 ^ (8 - s) * ((x / 256) % 2 ^ s) + 256 * (x / 256 / 2 ^ s) := by
        conv => lhs; rw [h3]
        rw [Nat.mul_add, ← Nat.mul_assoc, Nat.mul_comm (2 ^ (8 - s)) (2 ^ s), hp]
      rw [h2, h4, Nat.add_assoc]
    have hc : (x / 256) % 2 ^ s < 2 ^ s := Nat.mod_lt _ hps
    have hlt : (x % 256) / 2 ^ s + 2 ^ (8 - s) * ((x / 256) % 2 ^ s) < 256 := by
      have h5 : (x % 256) / 2 ^ s < 2 ^ (8 - s) := by
        rw [Nat.div_lt_iff_lt_mul hps, Nat.mul_comm, hp]
        exact ha
      have h6 : 2 ^ (8 - s) * ((x / 256) % 2 ^ s + 1) ≤ 2 ^ (8 - s) * 2 ^ s := Nat.mul_le_mul_left _ hc
      rw [Nat.mul_comm _ (2 ^ s), hp, Nat.mul_add, Nat.mul_one] at h6
      omega
    show (x / 2 ^ s) &&& (m + 256 * mkM m n) = ((x % 256) / 2 ^ s &&& m) + 256 * dM (fun b => (b / 2 ^ s) &&& m) n (x / 256)
    rw [e1, and8 hlt hm, hcr _ ha _ hc, ih _ hy]
theorem st_and {m : Nat} (hm : m < 256) : ∀ n x, x < 256 ^ n → x &&& mkM m n = dM (fun b => b &&& m) n x := by
  intro n x hx
  have := st_sh (s := 0) (m := m) (by omega) hm (fun a _ c hc => by simp at hc; subst hc; simp) n x hx
  simpa using this
def okD : Nat → Nat → Prop
  | 0, x => x = 0
  | n + 1, x => (x % 256 ≤ 68 ∧ x % 16 ≤ 4) ∧ okD n (x / 256)
theorem okD_16 : ∀ n x, okD n x → x % 16 ≤ 4 := by
  intro n x h
  cases n with
  | zero => have h : x = 0 := h; subst h; decide
  | succ n => exact h.1.2
theorem g3_a : ∀ a, a ≤ 68 → ∀ c, c ≤ 4 → (a + a / 16 + 16 * c) &&& 15 = (a + a / 16) &&& 15 := by decide +kernel
theorem st_3 : ∀ n x, okD n x → (x + x / 16) &&& mkM 15 n = dM (fun b => (b + b / 16) &&& 15) n x := by
  intro n
  induction n with
  | zero => intro x _; simp [mkM, dM]
  | succ n ih =>
    intro x h
    have h1 := h.1
    have h2 := okD_16 n _ h.2
    have e1 : x + x / 16 = (x % 256 + x % 256 / 16 + 16 * ((x / 256) % 16)) + 256 * (x / 256 + x / 256 / 16) := by omega
    show (x + x / 16) &&& (15 + 256 * mkM 15 n) = ((x % 256 + x % 256 / 16) &&& 15) + 256 * dM (fun b => (b + b / 16) &&& 15) n (x / 256)
    rw [e1, and8 (by omega) (by omega), ih _ h.2, g3_a _ h1.1 _ h2]
theorem okD_d {g : Nat → Nat} (hg : ∀ b, b < 256 → g b ≤ 68 ∧ g b % 16 ≤ 4) : ∀ n x, okD n (dM g n x) := by
  intro n
  induction n with
  | zero => intro x; rfl
  | succ n ih =>
    intro x
    have h1 := hg (x % 256) (Nat.mod_lt _ (by omega))
    show (((g (x % 256) + 256 * dM g n (x / 256)) % 256 ≤ 68 ∧ (g (x % 256) + 256 * dM g n (x / 256)) % 16 ≤ 4) ∧ okD n ((g (x % 256) + 256 * dM g n (x / 256)) / 256))
    rw [show (g (x % 256) + 256 * dM g n (x / 256)) / 256 = dM g n (x / 256) by omega]
    exact ⟨by omega, ih _⟩
def g1b (b : Nat) : Nat := b - ((b / 2) &&& 85)
def g2b (b : Nat) : Nat := (b &&& 51) + ((b / 4) &&& 51)
def p8 (b : Nat) : Nat := ((g2b (g1b b)) + (g2b (g1b b)) / 16) &&& 15
theorem c1_cr : ∀ a, a < 256 → ∀ c, c < 2 → (a / 2 + 128 * c) &&& 85 = (a / 2) &&& 85 := by decide +kernel
theorem c2_cr : ∀ a, a < 256 → ∀ c, c < 4 → (a / 4 + 64 * c) &&& 51 = (a / 4) &&& 51 := by decide +kernel
theorem g1_lt : ∀ b, b < 256 → g1b b < 256 ∧ (b / 2) &&& 85 ≤ b := by decide +kernel
theorem g2_ok : ∀ b, b < 256 → g2b (g1b b) ≤ 68 ∧ g2b (g1b b) % 16 ≤ 4 := by decide +kernel
theorem p8_ok : ∀ b, b < 256 → p8 b ≤ 8 ∧ p8 b = sm (fun e => if b.testBit e = true then 1 else 0) 8 := by decide +kernel
theorem s1_ok {x : Nat} (hx : x < 256 ^ 8) : x - ((x / 2) &&& mkM 85 8) = dM g1b 8 x ∧ (x / 2) &&& mkM 85 8 ≤ x := by
  have h1 := st_sh (s := 1) (m := 85) (by omega) (by omega) (fun a ha c hc => c1_cr a ha c hc) 8 x hx
  rw [show (2 : Nat) ^ 1 = 2 from rfl] at h1
  have h2 := dM_add g1b (fun b => (b / 2) &&& 85) 8 x
  have h3 := dM_c (g := fun b => g1b b + ((b / 2) &&& 85)) (h := fun b => b) (fun b hb => by have := (g1_lt b hb).2; unfold g1b; omega) 8 x
  rw [h3, dM_id 8 x hx] at h2
  rw [h1]
  omega
theorem s2_ok {x : Nat} (hx : x < 256 ^ 8) : (x &&& mkM 51 8) + ((x / 4) &&& mkM 51 8) = dM g2b 8 x := by
  have h1 := st_sh (s := 2) (m := 51) (by omega) (by omega) (fun a ha c hc => c2_cr a ha c hc) 8 x hx
  rw [show (2 : Nat) ^ 2 = 4 from rfl] at h1
  rw [h1, st_and (by omega) 8 x hx, dM_add]
  rfl
theorem all_ok {x : Nat} (hx : x < 256 ^ 8) : ((dM g2b 8 (dM g1b 8 x)) + (dM g2b 8 (dM g1b 8 x)) / 16) &&& mkM 15 8 = dM p8 8 x := by
  rw [dM_dM (fun b hb => (g1_lt b hb).1), st_3 8 _ (okD_d g2_ok 8 x), dM_dM (fun b hb => by have := (g2_ok b hb).1; omega)]
  rfl
def dS8 (g : Nat → Nat) : Nat → Nat → Nat
  | 0, _ => 0
  | n + 1, x => g (x % 256) + dS8 g n (x / 256)
theorem cnt_8 : ∀ n x, x < 256 ^ n → dS8 p8 n x = sm (fun e => if x.testBit e = true then 1 else 0) (8 * n) := by
  intro n
  induction n with
  | zero => intro x _; rfl
  | succ n ih =>
    intro x hx
    rw [Nat.pow_succ] at hx
    have ha : x % 256 < 256 := Nat.mod_lt _ (by omega)
    rw [show 8 * (n + 1) = 8 + 8 * n by omega, sm_split]
    show p8 (x % 256) + dS8 p8 n (x / 256) = _
    rw [ih _ (by omega), (p8_ok _ ha).2]
    have ex : x = 2 ^ 8 * (x / 256) + x % 256 := by omega
    congr 1
    · refine sm_c _ (fun e he => ?_)
      show _ = if x.testBit e = true then 1 else 0
      rw [ex, Nat.testBit_two_pow_mul_add _ (show x % 256 < 2 ^ 8 by omega), if_pos he, ← ex]
    · refine sm_c _ (fun e he => ?_)
      show _ = if x.testBit (8 + e) = true then 1 else 0
      have := bit_hi (j := 8) (q := x / 256) (t := x % 256) (d := e) (by omega)
      rw [← ex] at this
      rw [this]
theorem dv1 {a y : Nat} (h : a < 256) : (a + 256 * y) / 256 = y := by omega
theorem dv2 {a b y : Nat} (h : a < 256) (h2 : b < 256) : (a + 256 * (b + 256 * y)) / 65536 = y := by omega
theorem dv4 {a b c d y : Nat} (h : a < 256) (h2 : b < 256) (h3 : c < 256) (h4 : d < 256) : (a + 256 * (b + 256 * (c + 256 * (d + 256 * y)))) / 4294967296 = y := by omega
theorem md1 {s y : Nat} (h : s < 128) : (s + 256 * y) % 128 = s := by omega
theorem fin_z {a0 a1 a2 a3 a4 a5 a6 a7 z : Nat} (h0 : a0 ≤ 8) (h1 : a1 ≤ 8) (h2 : a2 ≤ 8) (h3 : a3 ≤ 8) (h4 : a4 ≤ 8) (h5 : a5 ≤ 8) (h6 : a6 ≤ 8) (h7 : a7 ≤ 8) (hz : z = a0 + 256 * (a1 + 256 * (a2 + 256 * (a3 + 256 * (a4 + 256 * (a5 + 256 * (a6 + 256 * a7))))))) :
    ∃ c, c < 2 ^ 62 ∧ c % 128 = a0 + a1 + a2 + a3 + a4 + a5 + a6 + a7 ∧ ((z + z / 256 + (z + z / 256) / 65536) + (z + z / 256 + (z + z / 256) / 65536) / 4294967296) = c ∧ z < 2 ^ 60 := by
  have e1 : z / 256 = a1 + 256 * (a2 + 256 * (a3 + 256 * (a4 + 256 * (a5 + 256 * (a6 + 256 * a7))))) := by rw [hz, dv1 (by omega)]
  have s1 : z + z / 256 = (a0 + a1) + 256 * ((a1 + a2) + 256 * ((a2 + a3) + 256 * ((a3 + a4) + 256 * ((a4 + a5) + 256 * ((a5 + a6) + 256 * ((a6 + a7) + 256 * a7)))))) := by rw [e1, hz]; omega
  rw [s1]
  rw [dv2 (y := (a2 + a3) + 256 * ((a3 + a4) + 256 * ((a4 + a5) + 256 * ((a5 + a6) + 256 * ((a6 + a7) + 256 * a7))))) (by omega) (by omega)]
  have s2 : (a0 + a1) + 256 * ((a1 + a2) + 256 * ((a2 + a3) + 256 * ((a3 + a4) + 256 * ((a4 + a5) + 256 * ((a5 + a6) + 256 * ((a6 + a7) + 256 * a7)))))) + ((a2 + a3) + 256 * ((a3 + a4) + 256 * ((a4 + a5) + 256 * ((a5 + a6) + 256 * ((a6 + a7) + 256 * a7))))) = (a0 + a1 + a2 + a3) + 256 * ((a1 + a2 + a3 + a4) + 256 * ((a2 + a3 + a4 + a5) + 256 * ((a3 + a4 + a5 + a6) + 256 * ((a4 + a5 + a6 + a7) + 256 * ((a5 + a6 + a7) + 256 * ((a6 + a7) + 256 * a7)))))) := by omega
  rw [s2, dv4 (y := (a4 + a5 + a6 + a7) + 256 * ((a5 + a6 + a7) + 256 * ((a6 + a7) + 256 * a7))) (by omega) (by omega) (by omega) (by omega)]
  have s3 : (a0 + a1 + a2 + a3) + 256 * ((a1 + a2 + a3 + a4) + 256 * ((a2 + a3 + a4 + a5) + 256 * ((a3 + a4 + a5 + a6) + 256 * ((a4 + a5 + a6 + a7) + 256 * ((a5 + a6 + a7) + 256 * ((a6 + a7) + 256 * a7)))))) + ((a4 + a5 + a6 + a7) + 256 * ((a5 + a6 + a7) + 256 * ((a6 + a7) + 256 * a7))) = (a0 + a1 + a2 + a3 + a4 + a5 + a6 + a7) + 256 * ((a1 + a2 + a3 + a4 + a5 + a6 + a7) + 256 * ((a2 + a3 + a4 + a5 + a6 + a7) + 256 * ((a3 + a4 + a5 + a6 + a7) + 256 * ((a4 + a5 + a6 + a7) + 256 * ((a5 + a6 + a7) + 256 * ((a6 + a7) + 256 * a7)))))) := by omega
  rw [s3]
  exact ⟨_, by omega, md1 (by omega), rfl, by omega⟩
theorem fin_8 {x : Nat} {g : Nat → Nat} (hg : ∀ b, b < 256 → g b ≤ 8) : ∃ c, c < 2 ^ 62 ∧ c % 128 = dS8 g 8 x ∧ ((dM g 8 x + dM g 8 x / 256 + (dM g 8 x + dM g 8 x / 256) / 65536) + (dM g 8 x + dM g 8 x / 256 + (dM g 8 x + dM g 8 x / 256) / 65536) / 4294967296) = c ∧ dM g 8 x < 2 ^ 60 := by
  have hm : ∀ y, y % 256 < 256 := fun y => Nat.mod_lt _ (by decide)
  have ed : ∀ n y, dM g (n + 1) y = g (y % 256) + 256 * dM g n (y / 256) := fun _ _ => rfl
  have e0 : ∀ y, dM g 0 y = 0 := fun _ => rfl
  have es : ∀ n y, dS8 g (n + 1) y = g (y % 256) + dS8 g n (y / 256) := fun _ _ => rfl
  have es0 : ∀ y, dS8 g 0 y = 0 := fun _ => rfl
  have key := fin_z (hg _ (hm x)) (hg _ (hm (x / 256))) (hg _ (hm (x / 256 / 256))) (hg _ (hm (x / 256 / 256 / 256))) (hg _ (hm (x / 256 / 256 / 256 / 256))) (hg _ (hm (x / 256 / 256 / 256 / 256 / 256))) (hg _ (hm (x / 256 / 256 / 256 / 256 / 256 / 256))) (hg _ (hm (x / 256 / 256 / 256 / 256 / 256 / 256 / 256))) (z := dM g 8 x) (by rw [ed, ed, ed, ed, ed, ed, ed, ed, e0, Nat.mul_zero, Nat.add_zero])
  rw [es, es, es, es, es, es, es, es, es0, Nat.add_zero]
  simp only [Nat.add_assoc] at key ⊢
  exact key
theorem K_bitsL {d x : Nat} {w : q_Sm} {Q : Int32 → q_Sm → Prop} {X : s_Xo} (hx : x < 2 ^ 62) (h : Q (nI (sm (fun e => if x.testBit e = true then 1 else 0) 64)) w) : s_EvI (d + 1) 0 mK_bitsL w [.long (lN x)] Q X := by
  have hx8 : x < 256 ^ 8 := by
    have : (256 : Nat) ^ 8 = 2 ^ 64 := by decide
    omega
  obtain ⟨hs1, hle⟩ := s1_ok hx8
  have hd1 := dM_lt (fun b hb => (g1_lt b hb).1) 8 x
  have m1 : (6148914691236517205 : Int64) = lN (mkM 85 8) := by decide +kernel
  have m2 : (3689348814741910323 : Int64) = lN (mkM 51 8) := by decide +kernel
  have m4 : (1085102592571150095 : Int64) = lN (mkM 15 8) := by decide +kernel
  have v1 : mkM 85 8 = 6148914691236517205 := by decide +kernel
  have v2 : mkM 51 8 = 3689348814741910323 := by decide +kernel
  have v4 : mkM 15 8 = 1085102592571150095 := by decide +kernel
  have sh : ∀ (y k : Nat) (c : Int32), c = nI k → k < 64 → y < 2 ^ 64 → ((lN y).toUInt64 >>> ((Int32.toInt64 c).toUInt64 &&& Int64.toUInt64 63)).toInt64 = lN (y / 2 ^ k) := fun y k c hc hk hy => by rw [hc]; exact wb_shr hy hk
  have t1 : lN x - (((lN x).toUInt64 >>> ((Int32.toInt64 1).toUInt64 &&& Int64.toUInt64 63)).toInt64 &&& (6148914691236517205 : Int64)) = lN (dM g1b 8 x) := by
    rw [sh x 1 1 rfl (by omega) (by omega), m1, wb_and (by omega) (by omega), show (2 : Nat) ^ 1 = 2 from rfl, lN_sub hle, hs1]
  have b1 : dM g1b 8 x < 2 ^ 62 := by rw [← hs1]; omega
  have hs2 := s2_ok hd1
  have okz := okD_d g2_ok 8 x
  rw [← dM_dM (g := g1b) (h := g2b) (fun b hb => (g1_lt b hb).1) 8 x] at okz
  have b2 : dM g2b 8 (dM g1b 8 x) < 2 ^ 63 := by
    rw [← hs2]
    have u1 : dM g1b 8 x &&& mkM 51 8 ≤ mkM 51 8 := Nat.and_le_right
    have u2 : dM g1b 8 x / 4 &&& mkM 51 8 ≤ mkM 51 8 := Nat.and_le_right
    omega
  have t2 : (lN (dM g1b 8 x) &&& (3689348814741910323 : Int64)) + (((lN (dM g1b 8 x)).toUInt64 >>> ((Int32.toInt64 2).toUInt64 &&& Int64.toUInt64 63)).toInt64 &&& (3689348814741910323 : Int64)) = lN (dM g2b 8 (dM g1b 8 x)) := by
    rw [sh _ 2 2 rfl (by omega) (by omega), m2, wb_and (by omega) (by omega), wb_and (by omega) (by omega), show (2 : Nat) ^ 2 = 4 from rfl, lN_add, hs2]
  have hs3 := all_ok hx8
  have t3 : (lN (dM g2b 8 (dM g1b 8 x)) + ((lN (dM g2b 8 (dM g1b 8 x))).toUInt64 >>> ((Int32.toInt64 4).toUInt64 &&& Int64.toUInt64 63)).toInt64) &&& (1085102592571150095 : Int64) = lN (dM p8 8 x) := by
    rw [sh _ 4 4 rfl (by omega) (by omega), lN_add, m4, wb_and (by omega) (by omega), show (2 : Nat) ^ 4 = 16 from rfl, hs3]
  obtain ⟨c, hc1, hc2, hc3, hc4⟩ := fin_8 (x := x) (fun b hb => (p8_ok b hb).1)
  have t4 : lN (dM p8 8 x) + ((lN (dM p8 8 x)).toUInt64 >>> ((Int32.toInt64 8).toUInt64 &&& Int64.toUInt64 63)).toInt64 = lN (dM p8 8 x + dM p8 8 x / 256) := by
    rw [sh _ 8 8 rfl (by omega) (by omega), lN_add, show (2 : Nat) ^ 8 = 256 from rfl]
  have t5 : lN (dM p8 8 x + dM p8 8 x / 256) + ((lN (dM p8 8 x + dM p8 8 x / 256)).toUInt64 >>> ((Int32.toInt64 16).toUInt64 &&& Int64.toUInt64 63)).toInt64 = lN (dM p8 8 x + dM p8 8 x / 256 + (dM p8 8 x + dM p8 8 x / 256) / 65536) := by
    rw [sh _ 16 16 rfl (by omega) (by omega), lN_add, show (2 : Nat) ^ 16 = 65536 from rfl]
  have t6 : lN (dM p8 8 x + dM p8 8 x / 256 + (dM p8 8 x + dM p8 8 x / 256) / 65536) + ((lN (dM p8 8 x + dM p8 8 x / 256 + (dM p8 8 x + dM p8 8 x / 256) / 65536)).toUInt64 >>> ((Int32.toInt64 32).toUInt64 &&& Int64.toUInt64 63)).toInt64 = lN c := by
    rw [sh _ 32 32 rfl (by omega) (by omega), lN_add, show (2 : Nat) ^ 32 = 4294967296 from rfl, hc3]
  apply eK_bitsL
  unfold vK_bitsL_0
  rw [t1, t2, t3, t4, t5, t6, lN_i]
  have e9 : nI c &&& 127 = nI (c % 128) := by
    have := pk_and (nI c) (m := 127) 7 (by decide)
    rw [this]
    have e8 : (nI c).toBitVec.toNat = c % 2 ^ 32 := by show (BitVec.ofNat 32 c).toNat = _; rw [BitVec.toNat_ofNat]
    rw [e8, show (2 : Nat) ^ 7 = 128 from rfl]
    congr 1
    omega
  rw [e9, hc2, cnt_8 8 x hx8]
  exact ⟨_, rfl, h⟩
