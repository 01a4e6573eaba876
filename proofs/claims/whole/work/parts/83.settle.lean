/-! ===== lN n to 2^64: shifts, and, or, masks, one bit ===== -/
theorem wb_tb (n : Nat) : (lN n).toBitVec = BitVec.ofNat 64 n := rfl
theorem wb_inj {a b : Int64} (h : a.toBitVec = b.toBitVec) : a = b := Int64.toBitVec_inj.mp h
theorem wb_tn {n : Nat} (h : n < 2 ^ 64) : (lN n).toBitVec.toNat = n := by rw [wb_tb, BitVec.toNat_ofNat, Nat.mod_eq_of_lt h]
theorem wb_of (x : Int64) : ∃ n, n < 2 ^ 64 ∧ x = lN n := ⟨x.toBitVec.toNat, x.toBitVec.isLt, wb_inj (by rw [wb_tb]; simp)⟩
theorem wb_of32 (x : Int32) : ∃ n, n < 2 ^ 32 ∧ x = nI n := ⟨x.toBitVec.toNat, x.toBitVec.isLt, Int32.toBitVec_inj.mp (by show _ = BitVec.ofNat 32 _; simp)⟩
theorem wb_c : ∀ k, k < 64 → ((nI k).toInt64 &&& 63) = lN k := by decide +kernel
theorem wb_cu : ∀ k, k < 64 → ((nI k).toInt64.toUInt64 &&& Int64.toUInt64 63) = UInt64.ofNat k := by decide +kernel
theorem wb_sm : ∀ k, k < 64 → (BitVec.ofNat 64 k).smod 64 = BitVec.ofNat 64 k := by decide +kernel
theorem wb_pw {a b : Nat} (h : a ≤ b) : 2 ^ b = 2 ^ a * 2 ^ (b - a) := by rw [← Nat.pow_add]; congr 1; omega
theorem wb_lt2 {a b : Nat} (h : a < b) : 2 ^ a < 2 ^ b := Nat.pow_lt_pow_right (by decide) h
theorem wb_mod (n : Nat) : lN n = lN (n % 2 ^ 64) := wb_inj (by rw [wb_tb, wb_tb]; apply BitVec.eq_of_toNat_eq; rw [BitVec.toNat_ofNat, BitVec.toNat_ofNat, Nat.mod_mod])
theorem wb_shr {n k : Nat} (hn : n < 2 ^ 64) (hk : k < 64) : ((lN n).toUInt64 >>> ((nI k).toInt64.toUInt64 &&& Int64.toUInt64 63)).toInt64 = lN (n / 2 ^ k) := by
  rw [wb_cu k hk]
  apply wb_inj
  apply BitVec.eq_of_toNat_eq
  show ((lN n).toUInt64 >>> UInt64.ofNat k).toNat = (BitVec.ofNat 64 _).toNat
  have h1 : (UInt64.ofNat k).toNat = k := by
    show (BitVec.ofNat 64 k).toNat = k
    rw [BitVec.toNat_ofNat, Nat.mod_eq_of_lt (by omega)]
  have h2 : (lN n).toUInt64.toNat = n := wb_tn hn
  rw [UInt64.toNat_shiftRight, h1, h2, Nat.mod_eq_of_lt hk, Nat.shiftRight_eq_div_pow, BitVec.toNat_ofNat, Nat.mod_eq_of_lt (Nat.lt_of_le_of_lt (Nat.div_le_self _ _) hn)]
theorem wb_shl (n : Nat) {k : Nat} (hk : k < 64) : lN n <<< ((nI k).toInt64 &&& 63) = lN (n * 2 ^ k) := by
  rw [wb_c k hk]
  apply wb_inj
  rw [Int64.toBitVec_shiftLeft, wb_tb, wb_tb, wb_tb, wb_sm k hk]
  apply BitVec.eq_of_toNat_eq
  rw [BitVec.shiftLeft_eq', BitVec.toNat_shiftLeft, BitVec.toNat_ofNat, BitVec.toNat_ofNat, BitVec.toNat_ofNat, Nat.mod_eq_of_lt (show k < 2 ^ 64 by omega), Nat.shiftLeft_eq, Nat.mul_mod, Nat.mod_mod, ← Nat.mul_mod]
theorem wb_and {a b : Nat} (ha : a < 2 ^ 64) (hb : b < 2 ^ 64) : lN a &&& lN b = lN (a &&& b) := by
  apply wb_inj
  rw [Int64.toBitVec_and, wb_tb, wb_tb, wb_tb]
  apply BitVec.eq_of_toNat_eq
  rw [BitVec.toNat_and, BitVec.toNat_ofNat, BitVec.toNat_ofNat, BitVec.toNat_ofNat, Nat.mod_eq_of_lt ha, Nat.mod_eq_of_lt hb, Nat.mod_eq_of_lt (Nat.and_lt_two_pow _ hb)]
theorem wb_or {a b : Nat} (ha : a < 2 ^ 64) (hb : b < 2 ^ 64) : lN a ||| lN b = lN (a ||| b) := by
  apply wb_inj
  rw [Int64.toBitVec_or, wb_tb, wb_tb, wb_tb]
  apply BitVec.eq_of_toNat_eq
  rw [BitVec.toNat_or, BitVec.toNat_ofNat, BitVec.toNat_ofNat, BitVec.toNat_ofNat, Nat.mod_eq_of_lt ha, Nat.mod_eq_of_lt hb, Nat.mod_eq_of_lt (Nat.or_lt_two_pow ha hb)]
theorem wb_mask {n k : Nat} (hn : n < 2 ^ 64) (hk : k < 64) : lN n &&& lN (2 ^ k - 1) = lN (n % 2 ^ k) := by
  rw [wb_and hn (by have := wb_lt2 hk; omega), Nat.and_two_pow_sub_one_eq_mod]
theorem wb_a1 {n : Nat} (hn : n < 2 ^ 64) : lN n &&& 1 = lN (n % 2) := wb_mask (k := 1) hn (by decide)
theorem wb_bit {n k : Nat} (hn : n < 2 ^ 64) (hk : k < 64) : ((lN n).toUInt64 >>> ((nI k).toInt64.toUInt64 &&& Int64.toUInt64 63)).toInt64 &&& 1 = lN (n / 2 ^ k % 2) := by
  rw [wb_shr hn hk, wb_a1 (Nat.lt_of_le_of_lt (Nat.div_le_self _ _) hn)]
/-! agreements: settle, now -/
theorem k_minL {d a b : Nat} {w : q_Sm} {Q : Int64 → q_Sm → Prop} {X : s_Xo} (ha : a < 2 ^ 63) (hb : b < 2 ^ 63) (h : Q (lN (min a b)) w) : s_EvJ (d + 1) 0 mK_minL w [.long (lN a), .long (lN b)] Q X := by
  apply eK_minL
  unfold vK_minL_0
  simp only [s_Jj, lg_cmp_gt, pk_lLT hb ha]
  refine ⟨fun z => ?_, fun z => ?_⟩
  · rw [Nat.min_eq_right (by omega)] at h; exact h
  · rw [Nat.min_eq_left (by omega)] at h; exact h
theorem K_payOff {d a b : Nat} {w : q_Sm} {Q : Int64 → q_Sm → Prop} {X : s_Xo} (ha : a < 2 ^ 30) (hb : b < 2 ^ 30) (h : Q (lN (a - b)) w) : s_EvJ (d + 2) 0 mX11_payOff w [.int (nI a), .int (nI b)] Q X := by
  apply eX11_payOff
  unfold vX11_payOff_0
  by_cases q : b ≤ a
  · rw [pk_sub q]
    refine k_maxN (a := 0) (by omega) (by omega) ?_
    rw [Nat.max_eq_right (by omega), nI_l (by omega)]
    exact ⟨_, rfl, h⟩
  · have z3 : nI a - nI b < 0 := pk_sneg hb (by omega)
    refine k_max ?_
    rw [if_neg (fun q => absurd (Int32.lt_trans q z3) (by decide)), show a - b = 0 by omega] at *
    exact ⟨_, rfl, h⟩
theorem R_zero {d a b : Nat} {w : q_Sm} {Q : Int32 → q_Sm → Prop} {X : s_Xo} (ha : a < 2 ^ 30) (hb : b < 2 ^ 30) (h : Q (nI (a - b)) w) : s_EvI (d + 1) 0 mX12_zero w [.int (nI a - nI b)] Q X := by
  apply eX12_zero
  unfold vX12_zero_0
  by_cases q : b ≤ a
  · rw [pk_sub q]
    exact ⟨fun _ => ⟨_, rfl, h⟩, fun z => absurd (nI_pos' (by omega)) z⟩
  · have z3 : nI a - nI b < 0 := pk_sneg hb (by omega)
    rw [show a - b = 0 by omega] at h
    exact ⟨fun z => absurd z (Int32.not_le.mpr z3), fun _ => ⟨_, rfl, h⟩⟩
/-- the mean loss, in parts of 16 to the power k -/
def lsW (fg n g f : Nat) : Nat → Nat
  | 0 => n - 2 * g
  | k + 1 => min ((n - g) * 16 ^ (k + 1)) (fg * ((n + f) * 16 ^ k) + (16 - fg) * lsW fg n g f k)
def wtW (fg n g f k : Nat) : Nat := fg * ((n + f) * 16 ^ k) + (16 - fg) * lsW fg n g f k
theorem lsW_le {fg n g f : Nat} (hf : fg ≤ 16) : ∀ k, lsW fg n g f k ≤ (n + f) * 16 ^ k := by
  intro k
  induction k with
  | zero => simp [lsW]; omega
  | succ k ih =>
    have h1 : (16 - fg) * lsW fg n g f k ≤ (16 - fg) * ((n + f) * 16 ^ k) := Nat.mul_le_mul_left _ ih
    have h2 : fg * ((n + f) * 16 ^ k) + (16 - fg) * ((n + f) * 16 ^ k) = (n + f) * 16 ^ (k + 1) := by
      rw [← Nat.add_mul, show fg + (16 - fg) = 16 by omega, Nat.pow_succ, Nat.mul_comm 16, Nat.mul_assoc]
    unfold lsW
    omega
theorem wtW_le {fg n g f k : Nat} (hf : fg ≤ 16) : wtW fg n g f k ≤ (n + f) * 16 ^ (k + 1) := by
  have h1 : (16 - fg) * lsW fg n g f k ≤ (16 - fg) * ((n + f) * 16 ^ k) := Nat.mul_le_mul_left _ (lsW_le hf k)
  have h2 : fg * ((n + f) * 16 ^ k) + (16 - fg) * ((n + f) * 16 ^ k) = (n + f) * 16 ^ (k + 1) := by
    rw [← Nat.add_mul, show fg + (16 - fg) = 16 by omega, Nat.pow_succ, Nat.mul_comm 16, Nat.mul_assoc]
  unfold wtW
  omega
theorem p16 : ∀ k, k ≤ 7 → (16 : Nat) ^ k ≤ 268435456 ∧ 0 < (16 : Nat) ^ k := by decide
theorem p16_2 (k : Nat) : (16 : Nat) ^ k = 2 ^ (4 * k) := by rw [Nat.pow_mul]
theorem K_waitLoss {d o l n a g f k : Nat} {T : Tb} {β C : Nat → Nat} {w : q_Sm} {Q : Int64 → q_Sm → Prop} {X : s_Xo} (hE : KE o l T β C n w) (hid : w.2.2.1 = o) (ha : a ≤ 999) (hg : g ≤ 999) (hf : f ≤ 999) (hk : k ≤ 6) (hk1 : 1 ≤ k) (h : Q (lN (wtW (T 7 4) a g f (k - 1))) w) : s_EvJ (d + 3) 0 mX11_waitLoss w [.ref 1, .int (nI a), .int (nI g), .int (nI f), .int (nI k)] Q X := by
  have hfg : T 7 4 ≤ 16 := hE.2.2.1.1.2.2.2.2
  have hoo := hE.1
  have loop : ∀ i, i ≤ k → ∀ x, (i = k → x = lN (wtW (T 7 4) a g f (k - 1))) → s_Ex (d + 3) 0 mX11_waitLoss 27 [none, some (.int (nI a)), some (.int (nI g)), some (.int (nI f)), some (.int (nI k)), some (.int (nI (T 7 4))), some (.long (lN (16 ^ i))), none, some (.long (lN (lsW (T 7 4) a g f i))), none, some (.long x), none, some (.int (nI (i + 1)))] [] w (s_J Q) X := by
    refine n_down ?_ ?_
    · intro x hx
      rw [hx rfl]
      apply xX11_waitLoss_27
      unfold vX11_waitLoss_27
      exact ⟨fun _ => ⟨_, rfl, h⟩, fun z => absurd (nI_lt (show k < k + 1 by omega) (by omega)) z⟩
    · intro i hi ih x _
      have hp := p16 i (by omega)
      have hp1 := p16 (i + 1) (by omega)
      have hw := wtW_le (n := a) (g := g) (f := f) (k := i) hfg
      have hb1 : (a + f) * 16 ^ (i + 1) ≤ 1998 * 268435456 := Nat.mul_le_mul (by omega) hp1.1
      have hb2 : (a - g) * 16 ^ (i + 1) ≤ 999 * 268435456 := Nat.mul_le_mul (by omega) hp1.1
      apply xX11_waitLoss_27
      unfold vX11_waitLoss_27
      have e1 : Int32.toInt64 (nI (T 7 4)) * Int32.toInt64 (nI a + nI f) * lN (16 ^ i) + Int32.toInt64 (16 - nI (T 7 4)) * lN (lsW (T 7 4) a g f i) = lN (wtW (T 7 4) a g f i) := by
        rw [nI_add, show (16 : Int32) = nI 16 from rfl, pk_sub hfg, nI_l (by omega), nI_l (by omega), nI_l (by omega), lN_mul, lN_mul, lN_mul, lN_add, Nat.mul_assoc]
        rfl
      have e2 : lN (16 ^ i) * (16 : Int64) = lN (16 ^ (i + 1)) := by
        rw [show (16 : Int64) = lN 16 from rfl, lN_mul, Nat.pow_succ]
      rw [e1, e2, nI_1]
      refine ⟨fun z => absurd z (nI_nlt (by omega) (by omega)), fun _ => K_payOff (by omega) (by omega) ?_⟩
      rw [lN_mul]
      refine k_minL (by omega) (by omega) ?_
      have e3 : min (wtW (T 7 4) a g f i) ((a - g) * 16 ^ (i + 1)) = lsW (T 7 4) a g f (i + 1) := by
        rw [Nat.min_comm]; rfl
      rw [e3]
      exact ih _ (fun q => by rw [← q]; rfl)
  apply eX11_waitLoss
  unfold vX11_waitLoss_0
  rw [hid, hE.fog]
  refine ⟨ia_0 hoo, ?_⟩
  have e4 : (2 : Int32) * nI g = nI (2 * g) := by rw [L_2, pk_mul]
  rw [e4]
  exact K_payOff (by omega) (by omega) (loop 0 (by omega) _ (fun q => by omega))
theorem R_losesOf {n a g f : Nat} {T : Tb} {C : Nat → Nat} {w : q_Sm} {X : s_Xo} (hE : RE T C n w) (ha : a ≤ 999) (hg : g ≤ 999) (hf : f ≤ 999) : ∀ k, k ≤ 6 → (∀ d (Q : Int64 → q_Sm → Prop), Q (lN (lsW (T 7 4) a g f k)) w → s_EvJ (d + 2 * k + 2) 0 mX12_losesOf w [.ref 79, .int (nI a), .int (nI g), .int (nI f), .int (nI k)] Q X) ∧
    ∀ d (Q : Int64 → q_Sm → Prop), Q (lN (wtW (T 7 4) a g f k)) w → s_EvJ (d + 2 * k + 3) 0 mX12_waits w [.ref 79, .int (nI a), .int (nI g), .int (nI f), .int (nI (k + 1))] Q X := by
  have hfg : T 7 4 ≤ 16 := hE.1.1.2.2.2.2
  have wt : ∀ k, k ≤ 6 → (∀ d (Q : Int64 → q_Sm → Prop), Q (lN (lsW (T 7 4) a g f k)) w → s_EvJ (d + 2 * k + 2) 0 mX12_losesOf w [.ref 79, .int (nI a), .int (nI g), .int (nI f), .int (nI k)] Q X) →
      ∀ d (Q : Int64 → q_Sm → Prop), Q (lN (wtW (T 7 4) a g f k)) w → s_EvJ (d + 2 * k + 3) 0 mX12_waits w [.ref 79, .int (nI a), .int (nI g), .int (nI f), .int (nI (k + 1))] Q X := by
    intro k hk hl d Q hQ
    apply eX12_waits
    unfold vX12_waits_0
    have e0 : nI (k + 1) - 1 = nI k := by rw [L_1, pk_sub (by omega)]; rfl
    have e1 : (4 : Int32) * nI k = nI (4 * k) := by rw [L_4, pk_mul]
    rw [e0, hE.fog]
    refine hl d _ ?_
    rw [e1, nI_add, show (16 : Int32) = nI 16 from rfl, pk_sub hfg, nI_l (show T 7 4 < 2 ^ 31 by omega), nI_l (show a + f < 2 ^ 31 by omega), nI_l (show 16 - T 7 4 < 2 ^ 31 by omega), wb_shl _ (by omega), lN_mul, lN_mul, lN_add, ← p16_2]
    exact ⟨_, rfl, hQ⟩
  intro k
  induction k with
  | zero =>
    intro _
    have h0 : ∀ d (Q : Int64 → q_Sm → Prop), Q (lN (lsW (T 7 4) a g f 0)) w → s_EvJ (d + 2 * 0 + 2) 0 mX12_losesOf w [.ref 79, .int (nI a), .int (nI g), .int (nI f), .int (nI 0)] Q X := by
      intro d Q hQ
      apply eX12_losesOf
      unfold vX12_losesOf_0
      have e4 : (2 : Int32) * nI g = nI (2 * g) := by rw [L_2, pk_mul]
      rw [e4]
      refine ⟨fun z => absurd rfl z, fun _ => R_zero (by omega) (by omega) ?_⟩
      rw [nI_l (by omega)]
      exact ⟨_, rfl, hQ⟩
    exact ⟨h0, wt 0 (by omega) h0⟩
  | succ k ih =>
    intro hk
    have ihw := (ih (by omega)).2
    have hs : ∀ d (Q : Int64 → q_Sm → Prop), Q (lN (lsW (T 7 4) a g f (k + 1))) w → s_EvJ (d + 2 * (k + 1) + 2) 0 mX12_losesOf w [.ref 79, .int (nI a), .int (nI g), .int (nI f), .int (nI (k + 1))] Q X := by
      intro d Q hQ
      have hp1 := p16 (k + 1) (by omega)
      have hw := wtW_le (n := a) (g := g) (f := f) (k := k) hfg
      have hb1 : (a + f) * 16 ^ (k + 1) ≤ 1998 * 268435456 := Nat.mul_le_mul (by omega) hp1.1
      have hb2 : (a - g) * 16 ^ (k + 1) ≤ 999 * 268435456 := Nat.mul_le_mul (by omega) hp1.1
      apply eX12_losesOf
      unfold vX12_losesOf_0
      have e1 : (4 : Int32) * nI (k + 1) = nI (4 * (k + 1)) := by rw [L_4, pk_mul]
      refine ⟨fun _ => R_zero (by omega) (by omega) ?_, fun z => absurd (nI_ne0 (by omega) (by omega)) z⟩
      have e2 : d + 2 * (k + 1) + 1 = d + 2 * k + 3 := by omega
      rw [e2]
      refine ihw d _ ?_
      rw [e1, nI_l (by omega), wb_shl _ (by omega), ← p16_2]
      simp only [lg_cmp_ge, s_Jj, pk_lLE (show wtW (T 7 4) a g f k < 2 ^ 63 by omega) (show (a - g) * 16 ^ (k + 1) < 2 ^ 63 by omega)]
      have e3 : lsW (T 7 4) a g f (k + 1) = min ((a - g) * 16 ^ (k + 1)) (wtW (T 7 4) a g f k) := rfl
      rw [e3] at hQ
      refine ⟨fun z => ?_, fun z => ?_⟩
      · rw [Nat.min_eq_right z] at hQ; exact hQ
      · rw [Nat.min_eq_left (by omega)] at hQ; exact hQ
    exact ⟨hs, wt (k + 1) hk hs⟩
theorem R_least {d A B x : Nat} {w : q_Sm} {Q : Int64 → q_Sm → Prop} {X : s_Xo} (hA : A < 2 ^ 63) (hB : 0 < B) (hB2 : B < 2 ^ 63) (hx : x < 2) (h : Q (lN ((if x = 0 then A else B) / Nat.gcd A B)) w) : s_EvJ (d + 1) 0 mX12_least w [.long (lN A), .long (lN B), .int (nI x)] Q X := by
  have loop : ∀ n y z, y ≤ n → y < 2 ^ 63 → z < 2 ^ 63 → 0 < Nat.gcd z y → Nat.gcd z y = Nat.gcd A B → s_Ex (d + 1) 0 mX12_least 6 [some (.long (lN A)), none, some (.long (lN B)), none, some (.int (nI x)), some (.long (lN z)), none, some (.long (lN y)), none, none, none] [] w (s_J Q) X := by
    intro n
    induction n with
    | zero =>
      intro y z hy hy2 hz hp hg
      have : y = 0 := Nat.le_zero.mp hy
      subst this
      rw [Nat.gcd_zero_right] at hp hg
      have zne : ¬ lN z = 0 := fun q => by have := (pk_lEQ (b := 0) hz (by omega)).mp q; omega
      apply xX12_least_6
      unfold vX12_least_6
      refine ⟨fun _ => ⟨fun q => ⟨zne, _, rfl, ?_⟩, fun q => ⟨zne, _, rfl, ?_⟩⟩, fun q => absurd ((lg_cmp_eq _ _).mpr rfl) q⟩
      · rw [pk_lDiv hB2 hp hz, hg]
        rw [if_neg (fun q2 => q (by rw [q2]; rfl))] at h
        exact h
      · have q2 : nI x = nI 0 := Decidable.not_not.mp q
        rw [nI_eq (by omega) (by omega)] at q2
        rw [pk_lDiv hA hp hz, hg]
        rw [if_pos q2] at h
        exact h
    | succ n ih =>
      intro y z hy hy2 hz hp hg
      by_cases q0 : y = 0
      · exact ih y z (by omega) hy2 hz hp hg
      have yne : ¬ lN y = 0 := fun q => by have := (pk_lEQ (b := 0) hy2 (by omega)).mp q; omega
      apply xX12_least_6
      unfold vX12_least_6
      refine ⟨fun q => absurd ((lg_cmp_eq _ _).mp q) yne, fun _ => ⟨yne, ?_⟩⟩
      rw [pk_lRem hz (by omega) hy2]
      have hlt : z % y < y := Nat.mod_lt _ (by omega)
      have eg : Nat.gcd y (z % y) = Nat.gcd z y := by rw [Nat.gcd_comm z y, Nat.gcd_rec y z, Nat.gcd_comm]
      exact ih (z % y) y (by omega) (by omega) hy2 (by rw [eg]; exact hp) (by rw [eg]; exact hg)
  apply eX12_least
  unfold vX12_least_0
  exact loop B B A (Nat.le_refl _) hB2 hA (Nat.gcd_pos_of_pos_right _ hB) rfl
theorem odd_gcd {a : Nat} (ha : a % 2 = 1) : ∀ r, Nat.gcd a (2 ^ r) = 1 := by
  intro r
  induction r with
  | zero => simp
  | succ r ih =>
    have h1 : Nat.gcd a (2 ^ (r + 1)) ∣ a := Nat.gcd_dvd_left _ _
    have h2 : Nat.gcd a (2 ^ (r + 1)) ∣ 2 ^ r * 2 := Nat.gcd_dvd_right _ _
    generalize Nat.gcd a (2 ^ (r + 1)) = d at *
    have hd : d % 2 = 1 := by
      rcases Nat.mod_two_eq_zero_or_one d with z | z
      · exfalso
        have h3 : 2 ∣ a := Nat.dvd_trans (Nat.dvd_of_mod_eq_zero z) h1
        have := Nat.mod_eq_zero_of_dvd h3
        omega
      · exact z
    have hc : Nat.gcd d 2 = 1 := by rw [Nat.gcd_comm, Nat.gcd_rec, hd]; rfl
    have h4 : d ∣ 2 ^ r := Nat.Coprime.dvd_of_dvd_mul_right hc h2
    have h5 : d ∣ Nat.gcd a (2 ^ r) := Nat.dvd_gcd h1 h4
    rw [ih] at h5
    exact Nat.dvd_one.mp h5
theorem K_settleL {d A k x : Nat} {w : q_Sm} {Q : Int64 → q_Sm → Prop} {X : s_Xo} (hA : A < 2 ^ 62) (hk : k ≤ 6) (hx : x < 2) (h : Q (lN ((if x = 0 then A else 2 ^ (4 * k)) / Nat.gcd A (2 ^ (4 * k)))) w) : s_Ex (d + 1) 0 mX11_settle 72 [none, none, none, none, some (.int (nI k)), some (.int (nI x)), some (.long (lN (2 ^ (4 * k)))), none, some (.long (lN A)), none, some (.int (nI 0))] [] w (s_J Q) X := by
  have hpow : ∀ j, j ≤ 24 → (2 : Nat) ^ j < 2 ^ 62 := fun j hj => Nat.pow_lt_pow_right (by omega) (by omega)
  have e4 : (4 : Int32) * nI k = nI (4 * k) := by rw [L_4, pk_mul]
  have fin : ∀ j a, j ≤ 4 * k → a * 2 ^ j = A → (a % 2 = 1 ∨ j = 4 * k) → (nI x ≠ 0 → Q (lN (2 ^ (4 * k - j))) w) ∧ (nI x = 0 → Q (lN a) w) := by
    intro j a hj ha hor
    have hpw : (2 : Nat) ^ (4 * k) = 2 ^ (4 * k - j) * 2 ^ j := by rw [← Nat.pow_add]; congr 1; omega
    have hg : Nat.gcd A (2 ^ (4 * k)) = 2 ^ j := by
      rw [← ha, hpw, Nat.gcd_mul_right]
      have : Nat.gcd a (2 ^ (4 * k - j)) = 1 := by
        rcases hor with z | z
        · exact odd_gcd z _
        · rw [z, Nat.sub_self]; simp
      rw [this, Nat.one_mul]
    have hpos : 0 < (2 : Nat) ^ j := Nat.pos_of_ne_zero (by simp)
    rw [hg] at h
    refine ⟨fun q => ?_, fun q => ?_⟩
    · rw [if_neg (fun q2 => q (by rw [q2]; rfl)), hpw, Nat.mul_div_cancel _ hpos] at h
      exact h
    · have q2 : nI x = nI 0 := q
      rw [nI_eq (by omega) (by omega)] at q2
      rw [if_pos q2, ← ha, Nat.mul_div_cancel _ hpos] at h
      exact h
  have loop : ∀ j, j ≤ 4 * k → ∀ a, a * 2 ^ j = A → a < 2 ^ 62 → s_Ex (d + 1) 0 mX11_settle 72 [none, none, none, none, some (.int (nI k)), some (.int (nI x)), some (.long (lN (2 ^ (4 * k - j)))), none, some (.long (lN a)), none, some (.int (nI j))] [] w (s_J Q) X := by
    refine n_down ?_ ?_
    · intro a ha hal
      have f := fin (4 * k) a (Nat.le_refl _) ha (Or.inr rfl)
      apply xX11_settle_72
      unfold vX11_settle_72
      rw [e4]
      exact ⟨fun _ => ⟨fun q => ⟨_, rfl, f.1 q⟩, fun q => ⟨_, rfl, f.2 (Decidable.not_not.mp q)⟩⟩, fun z => absurd (nI_le (Nat.le_refl _) (by omega)) z⟩
    · intro j hj ih a ha hal
      have e2 : lN a - lN a / (2 : Int64) * (2 : Int64) = lN (a % 2) := pk_lRem (b := 2) (by omega) (by omega) (by omega)
      have e3 : lN a / (2 : Int64) = lN (a / 2) := pk_lDiv (b := 2) (by omega) (by omega) (by omega)
      have e5 : lN (2 ^ (4 * k - j)) / (2 : Int64) = lN (2 ^ (4 * k - (j + 1))) := by
        have := hpow (4 * k - j) (by omega)
        rw [show (2 : Int64) = lN 2 from rfl, pk_lDiv (b := 2) (by omega) (by omega) (by omega), show 4 * k - j = (4 * k - (j + 1)) + 1 by omega, Nat.pow_succ, Nat.mul_div_cancel _ (by omega)]
      apply xX11_settle_72
      unfold vX11_settle_72
      rw [e4, e2, e3, e5, nI_1]
      refine ⟨fun z => absurd z (nI_ge hj (by omega)), fun _ => ⟨fun q => ?_, fun q => ?_⟩⟩
      · have hodd : a % 2 = 1 := by
          rcases Nat.mod_two_eq_zero_or_one a with z | z
          · exact absurd ((lg_cmp_eq _ _).mpr (by rw [z]; rfl)) q
          · exact z
        have f := fin j a (by omega) ha (Or.inl hodd)
        exact ⟨fun q => ⟨_, rfl, f.1 q⟩, fun q => ⟨_, rfl, f.2 (Decidable.not_not.mp q)⟩⟩
      · have hev : a % 2 = 0 := by
          have q2 : lN (a % 2) = lN 0 := (lg_cmp_eq _ _).mp (Decidable.not_not.mp q)
          exact (pk_lEQ (by omega) (by omega)).mp q2
        refine ih (a / 2) ?_ (by omega)
        rw [← ha, Nat.pow_succ, Nat.mul_comm (2 ^ j) 2, ← Nat.mul_assoc]
        congr 1
        omega
  exact loop 0 (by omega) A (by simp) hA
def r4 (x1 x2 x3 x4 : Int32) : Int32 := if r_in x1 0 999 = 0 ∨ r_in x2 0 999 = 0 ∨ r_in x3 0 999 = 0 ∨ r_in x4 0 6 = 0 then 0 else 1
theorem r4_c (x1 x2 x3 x4 : Int32) : r4 x1 x2 x3 x4 = 0 ∨ (r4 x1 x2 x3 x4 = 1 ∧ ∃ j1 j2 j3 j4 : Nat, (j1 ≤ 999 ∧ x1 = nI j1) ∧ (j2 ≤ 999 ∧ x2 = nI j2) ∧ (j3 ≤ 999 ∧ x3 = nI j3) ∧ j4 ≤ 6 ∧ x4 = nI j4) := by
  unfold r4
  rcases rng x1 999 (by omega) with ⟨j1, h1, e1⟩ | e1
  · rcases rng x2 999 (by omega) with ⟨j2, h2, e2⟩ | e2
    · rcases rng x3 999 (by omega) with ⟨j3, h3, e3⟩ | e3
      · rcases rng x4 6 (by omega) with ⟨j4, h4, e4⟩ | e4
        · right
          have p1 : r_in (nI j1) 0 999 = 1 := r_in1 (a := 0) (b := 999) (by omega) h1 (by omega)
          have p2 : r_in (nI j2) 0 999 = 1 := r_in1 (a := 0) (b := 999) (by omega) h2 (by omega)
          have p3 : r_in (nI j3) 0 999 = 1 := r_in1 (a := 0) (b := 999) (by omega) h3 (by omega)
          have p4 : r_in (nI j4) 0 6 = 1 := r_in1 (a := 0) (b := 6) (by omega) h4 (by omega)
          refine ⟨?_, j1, j2, j3, j4, ⟨h1, e1⟩, ⟨h2, e2⟩, ⟨h3, e3⟩, h4, e4⟩
          rw [e1, e2, e3, e4, p1, p2, p3, p4]
          rfl
        · exact Or.inl (if_pos (Or.inr (Or.inr (Or.inr e4))))
      · exact Or.inl (if_pos (Or.inr (Or.inr (Or.inl e3))))
    · exact Or.inl (if_pos (Or.inr (Or.inl e2)))
  · exact Or.inl (if_pos (Or.inl e1))
theorem K_areS {d : Nat} {x1 x2 x3 x4 : Int32} {w : q_Sm} {Q : Int32 → q_Sm → Prop} {X : s_Xo} (h : Q (r4 x1 x2 x3 x4) w) : s_EvI (d + 2) 0 mX11_areSettleable w [.int x1, .int x2, .int x3, .int x4] Q X := by
  apply eX11_areSettleable
  unfold vX11_areSettleable_0
  simp only [s_Ii]
  unfold r4 at h
  refine K_isIn ⟨fun z => ?_, fun z => K_isIn ⟨fun z2 => ?_, fun z2 => K_isIn ⟨fun z3 => ?_, fun z3 => K_isIn ⟨fun z4 => ?_, fun z4 => ?_⟩⟩⟩⟩
  · rw [if_pos (Or.inl z)] at h; exact h
  · rw [if_pos (Or.inr (Or.inl z2))] at h; exact h
  · rw [if_pos (Or.inr (Or.inr (Or.inl z3)))] at h; exact h
  · rw [if_pos (Or.inr (Or.inr (Or.inr z4)))] at h; exact h
  · rw [if_neg (fun q => q.elim z (fun q => q.elim z2 (fun q => q.elim z3 z4)))] at h; exact h
theorem r_in0 {x a b : Int32} : r_in x a b = 0 ↔ x < a ∨ b < x := by
  unfold r_in
  by_cases q : x < a ∨ b < x
  · simp [q]
  · simp only [q, if_false, iff_false]
    decide
theorem R_isSet {d : Nat} {x1 x2 x3 x4 : Int32} {w : q_Sm} {Q : Int32 → q_Sm → Prop} {X : s_Xo} (h : Q (r4 x1 x2 x3 x4) w) : s_EvI (d + 1) 0 mX12_isSettled w [.int x1, .int x2, .int x3, .int x4] Q X := by
  apply eX12_isSettled
  unfold vX12_isSettled_0
  simp only [s_Ii]
  unfold r4 at h
  simp only [r_in0] at h
  refine ⟨fun a => ?_, fun a => ⟨fun b => ?_, fun b => ⟨fun c => ?_, fun c => ⟨fun e => ?_, fun e => ⟨fun f => ?_, fun f => ⟨fun g => ?_, fun g => ⟨fun i => ?_, fun i => ⟨fun j => ?_, fun j => ?_⟩⟩⟩⟩⟩⟩⟩⟩
  · rw [if_pos (Or.inl (Or.inl a))] at h; exact h
  · rw [if_pos (Or.inl (Or.inr b))] at h; exact h
  · rw [if_pos (Or.inr (Or.inl (Or.inl c)))] at h; exact h
  · rw [if_pos (Or.inr (Or.inl (Or.inr e)))] at h; exact h
  · rw [if_pos (Or.inr (Or.inr (Or.inl (Or.inl f))))] at h; exact h
  · rw [if_pos (Or.inr (Or.inr (Or.inl (Or.inr g))))] at h; exact h
  · rw [if_pos (Or.inr (Or.inr (Or.inr (Or.inl i))))] at h; exact h
  · rw [if_pos (Or.inr (Or.inr (Or.inr (Or.inr j))))] at h; exact h
  · rw [if_neg (fun q => q.elim (fun q => q.elim a b) (fun q => q.elim (fun q => q.elim c e) (fun q => q.elim (fun q => q.elim f g) (fun q => q.elim i j))))] at h; exact h
