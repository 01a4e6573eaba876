/-! how many weddings can be: lack and matching are one -/
theorem sm_at1 {g : Nat → Nat} (h1 : ∀ c, g c ≤ 1) (h2 : ∀ c c', g c ≠ 0 → g c' ≠ 0 → c = c') : ∀ n, sm g n ≤ 1 ∧ (sm g n ≠ 0 → ∃ c, c < n ∧ g c ≠ 0) := by
  intro n
  induction n with
  | zero => exact ⟨Nat.zero_le _, fun h => absurd rfl h⟩
  | succ n ih =>
    have e : sm g (n + 1) = sm g n + g n := rfl
    have hn := h1 n
    by_cases q : g n = 0
    · rw [e, q]
      refine ⟨ih.1, fun h => ?_⟩
      obtain ⟨c, h3, h4⟩ := ih.2 h
      exact ⟨c, by omega, h4⟩
    · have : sm g n = 0 := by
        by_cases q2 : sm g n = 0
        · exact q2
        · obtain ⟨c, h3, h4⟩ := ih.2 q2
          have := h2 c n h4 q
          omega
      rw [e, this]
      exact ⟨by omega, fun _ => ⟨n, by omega, q⟩⟩
def ct (p : Nat → Bool) (n : Nat) : Nat := sm (fun v => if p v = true then 1 else 0) n
theorem cnt_le {p r : Nat → Bool} {M : Nat → Nat → Prop} {m n : Nat} (h1 : ∀ v, v < m → p v = true → ∃ e, e < n ∧ r e = true ∧ M v e) (h2 : ∀ e v v', M v e → M v' e → v = v') : ct p m ≤ ct r n := by
  have hd : ∀ v e, Decidable (r e = true ∧ M v e) := fun v e => Classical.propDecidable _
  have a1 : ct p m ≤ sm (fun v => sm (fun e => if r e = true ∧ M v e then 1 else 0) n) m := by
    refine sm_mon _ (fun v hv => ?_)
    by_cases q : p v = true
    · obtain ⟨e, h3, h4, h5⟩ := h1 v hv q
      have := sm_part (f := fun e => if r e = true ∧ M v e then 1 else 0) n h3
      have e1 : (if r e = true ∧ M v e then 1 else 0) = 1 := if_pos ⟨h4, h5⟩
      have this : (if r e = true ∧ M v e then 1 else 0) ≤ sm (fun e => if r e = true ∧ M v e then 1 else 0) n := this
      rw [e1] at this
      rw [if_pos q]
      exact this
    · rw [if_neg q]; exact Nat.zero_le _
  rw [sm_fub (fun v e => if r e = true ∧ M v e then 1 else 0)] at a1
  refine Nat.le_trans a1 (sm_mon _ (fun e he => ?_))
  by_cases q : r e = true
  · rw [if_pos q]
    refine (sm_at1 (fun c => ?_) (fun c c' h3 h4 => ?_) m).1
    · show (if _ then _ else _) ≤ 1
      split <;> omega
    · by_cases q1 : r e = true ∧ M c e
      · by_cases q2 : r e = true ∧ M c' e
        · exact h2 e c c' q1.2 q2.2
        · exact absurd (if_neg q2) h4
      · exact absurd (if_neg q1) h3
  · rw [if_neg q]
    have : sm (fun c => if r e = true ∧ M c e then 1 else 0) m = sm (fun _ => 0) m := sm_c _ (fun c _ => if_neg (fun z => q z.1))
    rw [this, sm_z (n := 0) m (by omega) (fun _ _ _ => rfl)]
    exact Nat.le_refl _
theorem ct_add {p q r : Nat → Bool} {n : Nat} (h : ∀ v, v < n → p v = true → q v = true ∨ r v = true) : ct p n ≤ ct q n + ct r n := by
  unfold ct
  rw [← sm_add]
  refine sm_mon _ (fun v hv => ?_)
  by_cases z : p v = true
  · rw [if_pos z]
    rcases h v hv z with h | h
    · rw [if_pos h]; omega
    · rw [if_pos h]; omega
  · rw [if_neg z]; omega
theorem ct_dis {p q r : Nat → Bool} {n : Nat} (h1 : ∀ v, v < n → q v = true → p v = true) (h2 : ∀ v, v < n → r v = true → p v = true) (h3 : ∀ v, v < n → q v = true → r v = true → False) : ct q n + ct r n ≤ ct p n := by
  unfold ct
  rw [← sm_add]
  refine sm_mon _ (fun v hv => ?_)
  by_cases z1 : q v = true
  · by_cases z2 : r v = true
    · exact (h3 v hv z1 z2).elim
    · rw [if_pos z1, if_neg z2, if_pos (h1 v hv z1)]; omega
  · by_cases z2 : r v = true
    · rw [if_neg z1, if_pos z2, if_pos (h2 v hv z2)]; omega
    · rw [if_neg z1, if_neg z2]; omega
theorem ct_mon {p q : Nat → Bool} {n : Nat} (h : ∀ v, v < n → p v = true → q v = true) : ct p n ≤ ct q n := by
  refine sm_mon _ (fun v hv => ?_)
  by_cases z : p v = true
  · rw [if_pos z, if_pos (h v hv z)]; omega
  · rw [if_neg z]; omega
theorem pc_ct (s : Nat) : pc s = ct (fun v => s.testBit v) 6 := rfl
theorem anyf_iff {T : Tb} {s e : Nat} : ∀ n, anyf T s e n = true ↔ ∃ v, v < n ∧ s.testBit v = true ∧ fit T v e = true := by
  intro n
  induction n with
  | zero => simp [anyf]
  | succ n ih =>
    unfold anyf
    rw [Bool.or_eq_true, ih, Bool.and_eq_true]
    constructor
    · rintro (⟨v, h1, h2⟩ | h)
      · exact ⟨v, by omega, h2⟩
      · exact ⟨n, by omega, h⟩
    · rintro ⟨v, h1, h2⟩
      by_cases q : v = n
      · subst q; exact Or.inr h2
      · exact Or.inl ⟨v, by omega, h2⟩
def cnp (T : Tb) (tk : Nat → Bool) (s e : Nat) : Bool := !(tk e) && anyf T s e 6
theorem cnf_ct (T : Tb) (tk : Nat → Bool) (s : Nat) : cnf T tk s = ct (cnp T tk s) 61 := by
  unfold cnf ct
  refine sm_c _ (fun e _ => ?_)
  unfold cnp
  cases tk e <;> cases anyf T s e 6 <;> rfl
theorem cnp_iff {T : Tb} {tk : Nat → Bool} {s e : Nat} : cnp T tk s e = true ↔ tk e = false ∧ ∃ v, v < 6 ∧ s.testBit v = true ∧ fit T v e = true := by
  unfold cnp
  rw [Bool.and_eq_true, anyf_iff, Bool.not_eq_true']
theorem lk_ge {T : Tb} {tk : Nat → Bool} {A s : Nat} (hs : s &&& A = s) : ∀ m, s < m → pc s - cnf T tk s ≤ lk T tk A m := by
  intro m
  induction m with
  | zero => intro h; omega
  | succ m ih =>
    intro h
    unfold lk
    by_cases q : s = m
    · subst q
      rw [if_pos hs]
      exact Nat.le_max_right _ _
    · exact Nat.le_trans (ih (by omega)) (Nat.le_max_left _ _)
theorem lk_le {T : Tb} {tk : Nat → Bool} {A b : Nat} (h : ∀ s, s &&& A = s → pc s ≤ b + cnf T tk s) : ∀ m, lk T tk A m ≤ b := by
  intro m
  induction m with
  | zero => exact Nat.zero_le _
  | succ m ih =>
    unfold lk
    refine Nat.max_le.mpr ⟨ih, ?_⟩
    split
    · rename_i q
      have := h m q
      omega
    · exact Nat.zero_le _
theorem aw_t {n f : Nat} (hn : n ≤ 6) (hf : f ≤ n) (i : Nat) : (2 ^ n - 2 ^ f).testBit i = decide (f ≤ i ∧ i < n) := by
  by_cases hi : i < 6
  · have : ∀ n, n < 7 → ∀ f, f < 7 → f ≤ n → ∀ i, i < 6 → (2 ^ n - 2 ^ f).testBit i = decide (f ≤ i ∧ i < n) := by decide
    exact this n (by omega) f (by omega) hf i hi
  · have h1 : 2 ^ n ≤ 2 ^ 6 := Nat.pow_le_pow_right (by omega) hn
    have h2 : 2 ^ 6 ≤ 2 ^ i := Nat.pow_le_pow_right (by omega) (by omega)
    have h3 : 0 < 2 ^ f := Nat.pow_pos (by omega)
    rw [Nat.testBit_lt_two_pow (by omega)]
    symm
    simp
    omega
theorem aw_pc {n f : Nat} (hn : n ≤ 6) (hf : f ≤ n) : pc (2 ^ n - 2 ^ f) = n - f := by
  have : ∀ n, n < 7 → ∀ f, f < 7 → f ≤ n → pc (2 ^ n - 2 ^ f) = n - f := by decide
  exact this n (by omega) f (by omega) hf
theorem sub_t {s A : Nat} (h : s &&& A = s) {i : Nat} (hi : s.testBit i = true) : A.testBit i = true := by
  rw [← h, Nat.testBit_and] at hi
  simp at hi
  exact hi.2
def bset (p : Nat → Bool) : Nat → Nat
  | 0 => 0
  | n + 1 => if p n = true then bset p n ||| 2 ^ n else bset p n
theorem bset_t {p : Nat → Bool} {e : Nat} : ∀ n, (bset p n).testBit e = (decide (e < n) && p e) := by
  intro n
  induction n with
  | zero => simp [bset]
  | succ n ih =>
    unfold bset
    split
    · rename_i h
      rw [Nat.testBit_or, ih, Nat.testBit_two_pow]
      by_cases q : n = e
      · subst q; simp [h]
      · have : decide (e < n + 1) = decide (e < n) := by simp; omega
        simp [q, this]
    · rename_i h
      rw [ih]
      by_cases q : e = n
      · subst q; simp [h]
      · have : decide (e < n + 1) = decide (e < n) := by simp; omega
        rw [this]
/-- what stands when all have asked -/
def kI (T : Tb) (f x : Nat) (t0 t : Nat → Option Nat) (Z : Nat → Bool) (K : Nat → Prop) : Prop :=
  fsd (fit T) (T 7 3) f t ∧ ijt f t (fun _ => false) ∧ (∀ e v, v < f → (t e = some v ↔ t0 e = some v)) ∧ clo (fit T) f t K ∧ (∀ z, Z z = true → f ≤ z ∧ z < x ∧ ∀ e, fit T z e = true → K e) ∧ ∀ u, f ≤ u → (occ t (fun _ => false) u ↔ u < x ∧ Z u = false)
theorem kI_lk {T : Tb} {f : Nat} {t0 t : Nat → Option Nat} {Z : Nat → Bool} {K : Nat → Prop} (ht : tb T) (hf : f ≤ T 7 3) (h0 : ∀ e v, t0 e = some v → v < f) (h : kI T f (T 7 3) t0 t Z K) : lk T (fun e => (t0 e).isSome) (allw T f) (allw T f + 1) = ct Z 6 := by
  have hnw := tb_nw ht
  obtain ⟨i1, i2, i3, i4, i5, i6⟩ := h
  have htk : ∀ e v, t e = some v → f ≤ v → (t0 e).isSome = false := by
    intro e v h1 h2
    cases q : t0 e with
    | none => rfl
    | some u =>
      have h3 := (i3 e u (h0 e u q)).mpr q
      rw [h1] at h3
      simp at h3
      have := h0 e u q
      omega
  apply Nat.le_antisymm
  · refine lk_le (fun s hs => ?_) _
    rw [pc_ct, cnf_ct]
    have a1 : ct (fun v => s.testBit v) 6 ≤ ct Z 6 + ct (fun v => s.testBit v && !(Z v)) 6 := by
      refine ct_add (fun v _ hv => ?_)
      cases q : Z v with
      | true => exact Or.inl rfl
      | false => right; simp [hv]
    have a2 : ct (fun v => s.testBit v && !(Z v)) 6 ≤ ct (cnp T (fun e => (t0 e).isSome) s) 61 := by
      refine cnt_le (M := fun v e => t e = some v) (fun v hv hp => ?_) (fun e v v' h1 h2 => by rw [h1] at h2; exact Option.some.inj h2)
      rw [Bool.and_eq_true, Bool.not_eq_true'] at hp
      have hA := sub_t hs hp.1
      unfold allw at hA
      rw [aw_t hnw hf] at hA
      have hA := of_decide_eq_true hA
      obtain ⟨e, _, h1⟩ := (i6 v hA.1).mpr ⟨hA.2, hp.2⟩
      have hF := (i1 e v h1).2 hA.1
      exact ⟨e, fit_le ht hA.2 hF, cnp_iff.mpr ⟨htk e v h1 hA.1, v, hv, hp.1, hF⟩, h1⟩
    omega
  · have hd : ∀ v, Decidable (f ≤ v ∧ ∃ e, K e ∧ t e = some v) := fun v => Classical.propDecidable _
    have key : ∀ v e, f ≤ v → t e = some v → v < T 7 3 ∧ Z v = false := fun v e hv h1 => (i6 v hv).mp ⟨e, rfl, h1⟩
    have hUt : ∀ v, (bset (fun v => Z v || decide (f ≤ v ∧ ∃ e, K e ∧ t e = some v)) 6).testBit v = true ↔ v < 6 ∧ (Z v = true ∨ f ≤ v ∧ ∃ e, K e ∧ t e = some v) := by
      intro v
      rw [bset_t]
      simp
    generalize bset (fun v => Z v || decide (f ≤ v ∧ ∃ e, K e ∧ t e = some v)) 6 = U at hUt
    have hUA : ∀ v, U.testBit v = true → f ≤ v ∧ v < T 7 3 := by
      intro v hv
      rcases ((hUt v).mp hv).2 with h1 | ⟨h1, e, _, h2⟩
      · have := i5 v h1; exact ⟨this.1, this.2.1⟩
      · exact ⟨h1, (key v e h1 h2).1⟩
    have hU : U &&& allw T f = U := by
      apply Nat.eq_of_testBit_eq
      intro v
      rw [Nat.testBit_and]
      unfold allw
      rw [aw_t hnw hf]
      cases q : U.testBit v with
      | false => rfl
      | true => simp [hUA v q]
    have hle : U ≤ allw T f := by rw [← hU]; exact Nat.and_le_right
    refine Nat.le_trans ?_ (lk_ge hU _ (by omega))
    rw [pc_ct, cnf_ct]
    have a1 : ct Z 6 + ct (fun v => decide (f ≤ v ∧ ∃ e, K e ∧ t e = some v)) 6 ≤ ct (fun v => U.testBit v) 6 := by
      refine ct_dis (fun v hv h1 => (hUt v).mpr ⟨hv, Or.inl h1⟩) (fun v hv h1 => (hUt v).mpr ⟨hv, Or.inr (of_decide_eq_true h1)⟩) (fun v _ h1 h2 => ?_)
      obtain ⟨h3, e, _, h4⟩ := of_decide_eq_true h2
      have := (key v e h3 h4).2
      rw [h1] at this
      exact absurd this (by decide)
    have a2 : ct (cnp T (fun e => (t0 e).isSome) U) 61 ≤ ct (fun v => decide (f ≤ v ∧ ∃ e, K e ∧ t e = some v)) 6 := by
      refine cnt_le (M := fun e v => f ≤ v ∧ t e = some v) (fun e he hp => ?_) (fun v e e' h1 h2 => i2 e e' v h1.1 h1.2 h2.2 rfl rfl)
      obtain ⟨h1, u, hu, h2, h3⟩ := cnp_iff.mp hp
      have hKe : K e := by
        rcases ((hUt u).mp h2).2 with h4 | ⟨h4, e2, h5, h6⟩
        · exact (i5 u h4).2.2 e h3
        · obtain ⟨v2, h7, h8⟩ := i4 e2 h5
          rw [h6] at h7
          simp at h7
          subst h7
          rcases h8 with h8 | h8
          · omega
          · exact h8 e h3
      obtain ⟨v, h4, _⟩ := i4 e hKe
      have hfv : f ≤ v := by
        apply Nat.le_of_not_lt
        intro z
        have := (i3 e v z).mp h4
        have h1 : (t0 e).isSome = false := h1
        rw [this] at h1
        simp at h1
      exact ⟨v, by have := (key v e hfv h4).1; omega, decide_eq_true ⟨hfv, e, hKe, h4⟩, hfv, h4⟩
    omega
def tF (W : Nat → Option Nat) : Nat → Nat → Option Nat
  | 0 => fun _ => none
  | v + 1 => match W v with
    | none => tF W v
    | some e => upt (tF W v) e v
theorem tF_lt {W : Nat → Option Nat} {e v : Nat} : ∀ f, tF W f e = some v → v < f := by
  intro f
  induction f with
  | zero => intro h; simp [tF] at h
  | succ f ih =>
    intro h
    unfold tF at h
    cases q : W f with
    | none => rw [q] at h; have := ih h; omega
    | some i =>
      rw [q] at h
      have h : upt (tF W f) i f e = some v := h
      by_cases q2 : e = i
      · rw [q2, upt_s] at h; simp at h; omega
      · rw [upt_n q2] at h; have := ih h; omega
theorem tF_c {W W' : Nat → Option Nat} : ∀ f, (∀ v, v < f → W v = W' v) → tF W f = tF W' f := by
  intro f
  induction f with
  | zero => intro _; rfl
  | succ f ih =>
    intro h
    unfold tF
    rw [ih (fun v hv => h v (by omega)), h f (by omega)]
theorem kI_0 {T : Tb} {f : Nat} {W : Nat → Option Nat} (hf : f ≤ T 7 3) : kI T f f (tF W f) (tF W f) (fun _ => false) (fun _ => False) := by
  refine ⟨fun e v h => ?_, fun e e' v h1 h2 => ?_, fun e v _ => Iff.rfl, fun e h => h.elim, fun z h => Bool.noConfusion h, fun u hu => ⟨?_, ?_⟩⟩
  · have := tF_lt f h; exact ⟨by omega, fun z => by omega⟩
  · have := tF_lt f h2; omega
  · rintro ⟨e, _, h⟩
    have := tF_lt f h; omega
  · rintro ⟨h, _⟩; omega
theorem kI_Y {T : Tb} {f x : Nat} {t0 t t' : Nat → Option Nat} {Z : Nat → Bool} {K : Nat → Prop} (hfx : f ≤ x) (h : kI T f x t0 t Z K) (k : kY (fit T) (T 7 3) f t (fun _ => false) x t') : kI T f (x + 1) t0 t' Z K := by
  obtain ⟨i1, i2, i3, i4, i5, i6⟩ := h
  obtain ⟨k1, k2, k3, k4, k5, k6, k7⟩ := k
  refine ⟨k3, k4, fun e v hv => (k2 e v hv).trans (i3 e v hv), fun e he => ?_, fun z hz => ?_, fun u hu => ?_⟩
  · obtain ⟨v, h1, h2⟩ := i4 e he
    exact ⟨v, by rw [(k7 K i4).1 e he]; exact h1, h2⟩
  · have := i5 z hz
    exact ⟨this.1, by omega, this.2.2⟩
  · by_cases q : u = x
    · subst q
      refine ⟨fun _ => ⟨by omega, ?_⟩, fun _ => k5⟩
      cases z : Z u with
      | false => rfl
      | true => have := (i5 u z).2.1; omega
    · rw [k6 u hu q, i6 u hu]
      constructor
      · intro h; exact ⟨by omega, h.2⟩
      · intro h; exact ⟨by omega, h.2⟩
theorem kI_N {T : Tb} {f x : Nat} {t0 t : Nat → Option Nat} {a' Z : Nat → Bool} {K : Nat → Prop} (hfx : f ≤ x) (h : kI T f x t0 t Z K) (k : kN (fit T) f t (fun _ => false) x a') : kI T f (x + 1) t0 t (upa Z x) (fun e => K e ∨ a' e = true) := by
  obtain ⟨i1, i2, i3, i4, i5, i6⟩ := h
  obtain ⟨k1, k2, k3⟩ := k
  refine ⟨i1, i2, i3, fun e he => ?_, fun z hz => ?_, fun u hu => ?_⟩
  · rcases he with he | he
    · obtain ⟨v, h1, h2⟩ := i4 e he
      refine ⟨v, h1, ?_⟩
      rcases h2 with h2 | h2
      · exact Or.inl h2
      · exact Or.inr (fun e' h' => Or.inl (h2 e' h'))
    · rcases k3 e he with h | ⟨v, h1, h2⟩
      · exact Bool.noConfusion h
      · refine ⟨v, h1, ?_⟩
        rcases h2 with h2 | h2
        · exact Or.inl h2
        · exact Or.inr (fun e' h' => Or.inr (h2 e' h'))
  · rcases upa_t.mp hz with q | q
    · have := i5 z q
      exact ⟨this.1, by omega, fun e he => Or.inl (this.2.2 e he)⟩
    · subst q
      exact ⟨hfx, by omega, fun e he => Or.inr (k2 e he)⟩
  · rw [i6 u hu, upa_f]
    constructor
    · intro h; exact ⟨by omega, h.2, by omega⟩
    · intro h; exact ⟨by omega, h.2.1⟩
theorem ct_up {Z : Nat → Bool} {x n : Nat} (hx : x < n) (h : Z x = false) : ct (upa Z x) n = ct Z n + 1 := by
  unfold ct
  symm
  refine sm_drop (e := x) n hx (fun k _ hq => ?_) ?_
  · simp [upa, hq]
  · simp [upa, h]
theorem R_mostL {n d f hd : Nat} {T : Tb} {C : Nat → Nat} {X : s_Xo} {t0 : Nat → Option Nat} {w0 : q_Sm} {Q : Int32 → q_Sm → Prop} (hf : f ≤ T 7 3) (h0 : ∀ e v, t0 e = some v → v < f) (hE0 : RE T C n w0) (hhd : hd ≤ 6)
    (h : ∀ u, fr aKu w0 u → Q (nI (hd + mm1 T (fun e => (t0 e).isSome) (allw T f))) u) :
    ∀ j x, x + j = T 7 3 → f ≤ x → ∀ (c : Nat) (w : q_Sm) (t : Nat → Option Nat) (Z : Nat → Bool) (K : Nat → Prop), fr aKu w0 w → tkm t w → kI T f x t0 t Z K → c + ct Z 6 = x - f →
      s_Ex (d + 70) 0 mX12_mostWith 66 [some (.ref 79), some (.int (nI f)), some (.int (nI (hd + c))), some (.int (nI x)), none] [] w (s_I Q) X := by
  have ht := hE0.1
  have hnw := tb_nw ht
  intro j
  induction j with
  | zero =>
    intro x hx hfx c w t Z K hfr htk hk hc
    have hx : x = T 7 3 := by omega
    subst hx
    have hE := hE0.f hfr aKu_lo
    apply xX12_mostWith_66
    unfold vX12_mostWith_66
    rw [hE.nw]
    try simp (disch := omega) only [s_Ii, s_Jj, s_Vn, forall_eq, L_m1, nI_add, nI_clamp, nI_leI, nI_ltI, nI_eq, vp_nI, pk_mul, pk_sub, Nat.zero_add, Nat.add_zero, wr_2, Classical.not_not, true_and, and_true, ne_eq, false_implies, true_implies, implies_true, not_true_eq_false, not_false_eq_true, ia_0, ia_1, za_1, ia_2, za_2, ia_3, za_3, ia_4, za_4, ia_5, za_5, ia_6, za_6, ia_7, za_7, ia_8, za_8, ia_9, za_9, ia_10, za_10, ia_11, za_11, ia_12, za_12, ia_13, za_13, ia_14, za_14, ia_15, za_15, ib_0, ib_1, zb_1, ic_0, ic_1, ic_2, ic_3, zc_1, zc_2, zc_3, id_0, id_1, id_2, id_3, zd_1, zd_2, zd_3, L_0, L_1, L_2, L_3, L_4, L_5, L_6, L_7, L_8, L_9, L_10, L_11, L_12, L_13, L_14, L_15, L_16, L_17, L_18, L_19, L_20, L_24, L_27, L_30, L_31, L_32, L_35, L_36, L_40, L_41, L_43, L_44, L_45, L_46, L_47, L_48, L_50, L_54, L_57, L_58, L_59, L_60, L_61, L_62, L_63, L_91, L_93, L_96, L_97, L_98, L_99, L_100, L_103, L_122, L_145, L_150, L_200, L_255, L_600, L_999, L_1000, L_2000, L_9999, L_10000, L_32767, L_12345, oI_s, oI_n, L_mn, if_true, if_false, ite_true, ite_false, Bool.false_eq_true, Nat.reduceEqDiff, Nat.reduceLeDiff, Nat.reduceLT, Nat.reduceAdd, Nat.reduceSub, Nat.reduceMul, Nat.le_refl, Nat.lt_irrefl, Nat.not_lt_zero]
    have e1 := kI_lk ht hf h0 hk
    have e2 : mm1 T (fun e => (t0 e).isSome) (allw T f) = c := by
      unfold mm1
      rw [e1]
      unfold allw
      rw [aw_pc hnw hf]
      omega
    rw [e2] at h
    exact h w hfr
  | succ j ih =>
    intro x hx hfx c w t Z K hfr htk hk hc
    have hE := hE0.f hfr aKu_lo
    apply xX12_mostWith_66
    unfold vX12_mostWith_66
    rw [hE.nw]
    try simp (disch := omega) only [s_Ii, s_Jj, s_Vn, forall_eq, L_m1, nI_add, nI_clamp, nI_leI, nI_ltI, nI_eq, vp_nI, pk_mul, pk_sub, Nat.zero_add, Nat.add_zero, wr_2, Classical.not_not, true_and, and_true, ne_eq, false_implies, true_implies, implies_true, not_true_eq_false, not_false_eq_true, ia_0, ia_1, za_1, ia_2, za_2, ia_3, za_3, ia_4, za_4, ia_5, za_5, ia_6, za_6, ia_7, za_7, ia_8, za_8, ia_9, za_9, ia_10, za_10, ia_11, za_11, ia_12, za_12, ia_13, za_13, ia_14, za_14, ia_15, za_15, ib_0, ib_1, zb_1, ic_0, ic_1, ic_2, ic_3, zc_1, zc_2, zc_3, id_0, id_1, id_2, id_3, zd_1, zd_2, zd_3, L_0, L_1, L_2, L_3, L_4, L_5, L_6, L_7, L_8, L_9, L_10, L_11, L_12, L_13, L_14, L_15, L_16, L_17, L_18, L_19, L_20, L_24, L_27, L_30, L_31, L_32, L_35, L_36, L_40, L_41, L_43, L_44, L_45, L_46, L_47, L_48, L_50, L_54, L_57, L_58, L_59, L_60, L_61, L_62, L_63, L_91, L_93, L_96, L_97, L_98, L_99, L_100, L_103, L_122, L_145, L_150, L_200, L_255, L_600, L_999, L_1000, L_2000, L_9999, L_10000, L_32767, L_12345, oI_s, oI_n, L_mn, if_true, if_false, ite_true, ite_false, Bool.false_eq_true, Nat.reduceEqDiff, Nat.reduceLeDiff, Nat.reduceLT, Nat.reduceAdd, Nat.reduceSub, Nat.reduceMul, Nat.le_refl, Nat.lt_irrefl, Nat.not_lt_zero]
    refine ⟨fun z => absurd z (by omega), fun _ => ?_⟩
    have loop : ∀ k i, i + k = 61 → ∀ u, fr aKu w0 u → tkm t u → (∀ e, e < i → u.1 113 e = nI 0) → s_Ex (d + 70) 0 mX12_mostWith 77 [some (.ref 79), some (.int (nI f)), some (.int (nI (hd + c))), some (.int (nI x)), some (.int (nI i))] [] u (s_I Q) X := by
      intro k
      induction k with
      | zero =>
        intro i hi u fu tu au
        have hi : i = 61 := by omega
        subst hi
        have hEu := hE0.f fu aKu_lo
        apply xX12_mostWith_77
        unfold vX12_mostWith_77
        refine ⟨fun _ => ?_, fun z => absurd (by decide) z⟩
        have hP : kP (fit T) (T 7 3) f t (fun _ => false) x := ⟨hk.1, hk.2.1, fun z => by have := (hk.2.2.2.2.2 x hfx).mp z; omega⟩
        refine R_finds ht hf 61 (d + 5) (fun _ => false) x u _ (by decide) hEu tu (fun e he => au e he) hP hfx (by omega) (fun u2 t' f2 t2 y2 => ?_) (fun u2 a' f2 t2 a2 n2 => ?_)
        · refine ⟨fun z => absurd z (by decide), fun _ => ?_⟩
          rw [nI_1 x, nI_1 (hd + c)]
          have := ih (x + 1) (by omega) (by omega) (c + 1) u2 t' Z K (fu.trans f2) t2 (kI_Y hfx hk y2) (by omega)
          rw [show hd + (c + 1) = hd + c + 1 by omega] at this
          exact this
        · refine ⟨fun _ => ?_, fun z => absurd rfl z⟩
          have hZ : Z x = false := by
            cases z : Z x with
            | false => rfl
            | true => have := (hk.2.2.2.2.1 x z).2.1; omega
          have hcu := ct_up (n := 6) (by omega) hZ
          have := ih (x + 1) (by omega) (by omega) c u2 t (upa Z x) _ (fu.trans f2) t2 (kI_N hfx hk n2) (by omega)
          rw [nI_1 x, show nI (hd + c) + 0 = nI (hd + c) by try simp (disch := omega) only [s_Ii, s_Jj, s_Vn, forall_eq, L_m1, nI_add, nI_clamp, nI_leI, nI_ltI, nI_eq, vp_nI, pk_mul, pk_sub, Nat.zero_add, Nat.add_zero, wr_2, Classical.not_not, true_and, and_true, ne_eq, false_implies, true_implies, implies_true, not_true_eq_false, not_false_eq_true, ia_0, ia_1, za_1, ia_2, za_2, ia_3, za_3, ia_4, za_4, ia_5, za_5, ia_6, za_6, ia_7, za_7, ia_8, za_8, ia_9, za_9, ia_10, za_10, ia_11, za_11, ia_12, za_12, ia_13, za_13, ia_14, za_14, ia_15, za_15, ib_0, ib_1, zb_1, ic_0, ic_1, ic_2, ic_3, zc_1, zc_2, zc_3, id_0, id_1, id_2, id_3, zd_1, zd_2, zd_3, L_0, L_1, L_2, L_3, L_4, L_5, L_6, L_7, L_8, L_9, L_10, L_11, L_12, L_13, L_14, L_15, L_16, L_17, L_18, L_19, L_20, L_24, L_27, L_30, L_31, L_32, L_35, L_36, L_40, L_41, L_43, L_44, L_45, L_46, L_47, L_48, L_50, L_54, L_57, L_58, L_59, L_60, L_61, L_62, L_63, L_91, L_93, L_96, L_97, L_98, L_99, L_100, L_103, L_122, L_145, L_150, L_200, L_255, L_600, L_999, L_1000, L_2000, L_9999, L_10000, L_32767, L_12345, oI_s, oI_n, L_mn, if_true, if_false, ite_true, ite_false, Bool.false_eq_true, Nat.reduceEqDiff, Nat.reduceLeDiff, Nat.reduceLT, Nat.reduceAdd, Nat.reduceSub, Nat.reduceMul, Nat.le_refl, Nat.lt_irrefl, Nat.not_lt_zero]]
          exact this
      | succ k ihk =>
        intro i hi u fu tu au
        have ec : Int32.toNatClampNeg (nI i) = i := nI_clamp (by omega)
        have h60 : ¬ ((60 : Int32) < nI i) := by
          try simp (disch := omega) only [s_Ii, s_Jj, s_Vn, forall_eq, L_m1, nI_add, nI_clamp, nI_leI, nI_ltI, nI_eq, vp_nI, pk_mul, pk_sub, Nat.zero_add, Nat.add_zero, wr_2, Classical.not_not, true_and, and_true, ne_eq, false_implies, true_implies, implies_true, not_true_eq_false, not_false_eq_true, ia_0, ia_1, za_1, ia_2, za_2, ia_3, za_3, ia_4, za_4, ia_5, za_5, ia_6, za_6, ia_7, za_7, ia_8, za_8, ia_9, za_9, ia_10, za_10, ia_11, za_11, ia_12, za_12, ia_13, za_13, ia_14, za_14, ia_15, za_15, ib_0, ib_1, zb_1, ic_0, ic_1, ic_2, ic_3, zc_1, zc_2, zc_3, id_0, id_1, id_2, id_3, zd_1, zd_2, zd_3, L_0, L_1, L_2, L_3, L_4, L_5, L_6, L_7, L_8, L_9, L_10, L_11, L_12, L_13, L_14, L_15, L_16, L_17, L_18, L_19, L_20, L_24, L_27, L_30, L_31, L_32, L_35, L_36, L_40, L_41, L_43, L_44, L_45, L_46, L_47, L_48, L_50, L_54, L_57, L_58, L_59, L_60, L_61, L_62, L_63, L_91, L_93, L_96, L_97, L_98, L_99, L_100, L_103, L_122, L_145, L_150, L_200, L_255, L_600, L_999, L_1000, L_2000, L_9999, L_10000, L_32767, L_12345, oI_s, oI_n, L_mn, if_true, if_false, ite_true, ite_false, Bool.false_eq_true, Nat.reduceEqDiff, Nat.reduceLeDiff, Nat.reduceLT, Nat.reduceAdd, Nat.reduceSub, Nat.reduceMul, Nat.le_refl, Nat.lt_irrefl, Nat.not_lt_zero]
          omega
        have hin : vp_in (nI i) 61 := by
          try simp (disch := omega) only [s_Ii, s_Jj, s_Vn, forall_eq, L_m1, nI_add, nI_clamp, nI_leI, nI_ltI, nI_eq, vp_nI, pk_mul, pk_sub, Nat.zero_add, Nat.add_zero, wr_2, Classical.not_not, true_and, and_true, ne_eq, false_implies, true_implies, implies_true, not_true_eq_false, not_false_eq_true, ia_0, ia_1, za_1, ia_2, za_2, ia_3, za_3, ia_4, za_4, ia_5, za_5, ia_6, za_6, ia_7, za_7, ia_8, za_8, ia_9, za_9, ia_10, za_10, ia_11, za_11, ia_12, za_12, ia_13, za_13, ia_14, za_14, ia_15, za_15, ib_0, ib_1, zb_1, ic_0, ic_1, ic_2, ic_3, zc_1, zc_2, zc_3, id_0, id_1, id_2, id_3, zd_1, zd_2, zd_3, L_0, L_1, L_2, L_3, L_4, L_5, L_6, L_7, L_8, L_9, L_10, L_11, L_12, L_13, L_14, L_15, L_16, L_17, L_18, L_19, L_20, L_24, L_27, L_30, L_31, L_32, L_35, L_36, L_40, L_41, L_43, L_44, L_45, L_46, L_47, L_48, L_50, L_54, L_57, L_58, L_59, L_60, L_61, L_62, L_63, L_91, L_93, L_96, L_97, L_98, L_99, L_100, L_103, L_122, L_145, L_150, L_200, L_255, L_600, L_999, L_1000, L_2000, L_9999, L_10000, L_32767, L_12345, oI_s, oI_n, L_mn, if_true, if_false, ite_true, ite_false, Bool.false_eq_true, Nat.reduceEqDiff, Nat.reduceLeDiff, Nat.reduceLT, Nat.reduceAdd, Nat.reduceSub, Nat.reduceMul, Nat.le_refl, Nat.lt_irrefl, Nat.not_lt_zero]
          omega
        apply xX12_mostWith_77
        unfold vX12_mostWith_77
        simp only [ec, nar_0, nI_1 i]
        refine ⟨fun z => absurd z h60, fun _ => ⟨hin, ?_⟩⟩
        rintro _ rfl
        refine ihk (i + 1) (by omega) _ (fu.put rfl) (fun e he => ?_) (fun e he => ?_)
        · rw [rd_i (by decide)]; exact tu e he
        · by_cases q : e = i
          · rw [q, rd_s]
          · rw [rd_j q]; exact au e (by omega)
    exact loop 61 0 rfl w hfr htk (fun e he => absurd he (by omega))
theorem R_mostWith {n d f : Nat} {T : Tb} {C : Nat → Nat} {X : s_Xo} {W : Nat → Option Nat} {w : q_Sm} {Q : Int32 → q_Sm → Prop} (hf : f ≤ T 7 3) (hE : RE T C n w) (hW : ∀ v, v < f → w.1 110 v = oI (W v)) (hb : ∀ v e, v < f → W v = some e → e < 61)
    (h : ∀ u, fr aKu w u → Q (nI (ct (fun v => (W v).isSome) f + mm1 T (fun e => (tF W f e).isSome) (allw T f))) u) :
    s_EvI (d + 70) 0 mX12_mostWith w [.ref 79, .int (nI f)] Q X := by
  have ht := hE.1
  have hnw := tb_nw ht
  have loop2 : ∀ j x, x + j = f → ∀ u, fr aKu w u → tkm (tF W x) u → s_Ex (d + 70) 0 mX12_mostWith 25 [some (.ref 79), some (.int (nI f)), some (.int (nI (ct (fun v => (W v).isSome) x))), some (.int (nI x)), none] [] u (s_I Q) X := by
    intro j
    induction j with
    | zero =>
      intro x hx u fu tu
      have hx : x = f := by omega
      subst hx
      apply xX12_mostWith_25
      unfold vX12_mostWith_25
      try simp (disch := omega) only [s_Ii, s_Jj, s_Vn, forall_eq, L_m1, nI_add, nI_clamp, nI_leI, nI_ltI, nI_eq, vp_nI, pk_mul, pk_sub, Nat.zero_add, Nat.add_zero, wr_2, Classical.not_not, true_and, and_true, ne_eq, false_implies, true_implies, implies_true, not_true_eq_false, not_false_eq_true, ia_0, ia_1, za_1, ia_2, za_2, ia_3, za_3, ia_4, za_4, ia_5, za_5, ia_6, za_6, ia_7, za_7, ia_8, za_8, ia_9, za_9, ia_10, za_10, ia_11, za_11, ia_12, za_12, ia_13, za_13, ia_14, za_14, ia_15, za_15, ib_0, ib_1, zb_1, ic_0, ic_1, ic_2, ic_3, zc_1, zc_2, zc_3, id_0, id_1, id_2, id_3, zd_1, zd_2, zd_3, L_0, L_1, L_2, L_3, L_4, L_5, L_6, L_7, L_8, L_9, L_10, L_11, L_12, L_13, L_14, L_15, L_16, L_17, L_18, L_19, L_20, L_24, L_27, L_30, L_31, L_32, L_35, L_36, L_40, L_41, L_43, L_44, L_45, L_46, L_47, L_48, L_50, L_54, L_57, L_58, L_59, L_60, L_61, L_62, L_63, L_91, L_93, L_96, L_97, L_98, L_99, L_100, L_103, L_122, L_145, L_150, L_200, L_255, L_600, L_999, L_1000, L_2000, L_9999, L_10000, L_32767, L_12345, oI_s, oI_n, L_mn, if_true, if_false, ite_true, ite_false, Bool.false_eq_true, Nat.reduceEqDiff, Nat.reduceLeDiff, Nat.reduceLT, Nat.reduceAdd, Nat.reduceSub, Nat.reduceMul, Nat.le_refl, Nat.lt_irrefl, Nat.not_lt_zero]
      have hct : ct (fun v => (W v).isSome) x ≤ x * 1 := sm_le x (fun v _ => by show (if _ then _ else _) ≤ 1; split <;> omega)
      have hz : ct (fun _ => false) 6 = 0 := by decide
      exact R_mostL (d := d) (w0 := w) (Q := Q) (X := X) hf (fun e v => tF_lt (W := W) x) hE (by omega) h (T 7 3 - x) x (by omega) (by omega) 0 u _ _ _ fu tu (kI_0 hf) (by omega)
    | succ j ih =>
      intro x hx u fu tu
      have ec : Int32.toNatClampNeg (nI x) = x := nI_clamp (by omega)
      have hin : vp_in (nI x) 6 := by
        try simp (disch := omega) only [s_Ii, s_Jj, s_Vn, forall_eq, L_m1, nI_add, nI_clamp, nI_leI, nI_ltI, nI_eq, vp_nI, pk_mul, pk_sub, Nat.zero_add, Nat.add_zero, wr_2, Classical.not_not, true_and, and_true, ne_eq, false_implies, true_implies, implies_true, not_true_eq_false, not_false_eq_true, ia_0, ia_1, za_1, ia_2, za_2, ia_3, za_3, ia_4, za_4, ia_5, za_5, ia_6, za_6, ia_7, za_7, ia_8, za_8, ia_9, za_9, ia_10, za_10, ia_11, za_11, ia_12, za_12, ia_13, za_13, ia_14, za_14, ia_15, za_15, ib_0, ib_1, zb_1, ic_0, ic_1, ic_2, ic_3, zc_1, zc_2, zc_3, id_0, id_1, id_2, id_3, zd_1, zd_2, zd_3, L_0, L_1, L_2, L_3, L_4, L_5, L_6, L_7, L_8, L_9, L_10, L_11, L_12, L_13, L_14, L_15, L_16, L_17, L_18, L_19, L_20, L_24, L_27, L_30, L_31, L_32, L_35, L_36, L_40, L_41, L_43, L_44, L_45, L_46, L_47, L_48, L_50, L_54, L_57, L_58, L_59, L_60, L_61, L_62, L_63, L_91, L_93, L_96, L_97, L_98, L_99, L_100, L_103, L_122, L_145, L_150, L_200, L_255, L_600, L_999, L_1000, L_2000, L_9999, L_10000, L_32767, L_12345, oI_s, oI_n, L_mn, if_true, if_false, ite_true, ite_false, Bool.false_eq_true, Nat.reduceEqDiff, Nat.reduceLeDiff, Nat.reduceLT, Nat.reduceAdd, Nat.reduceSub, Nat.reduceMul, Nat.le_refl, Nat.lt_irrefl, Nat.not_lt_zero]
        omega
      have e1 : ct (fun v => (W v).isSome) (x + 1) = ct (fun v => (W v).isSome) x + (if (W x).isSome = true then 1 else 0) := rfl
      have next := ih (x + 1) (by omega)
      rw [e1] at next
      have hu : u.1 110 x = oI (W x) := by rw [fu.2 110 x rfl]; exact hW x (by omega)
      apply xX12_mostWith_25
      unfold vX12_mostWith_25
      simp only [ec, nI_1 x, nI_1 (ct (fun v => (W v).isSome) x), hu]
      rw [nI_leI (by omega) (by omega)]
      refine ⟨fun z => absurd z (by omega), fun _ => ⟨hin, ?_⟩⟩
      cases q : W x with
      | none =>
        refine ⟨fun z => absurd rfl z, fun _ => ?_⟩
        rw [q] at next
        refine next u fu ?_
        unfold tF
        rw [q]
        exact tu
      | some e =>
        have he := hb x e (by omega) q
        have ece : Int32.toNatClampNeg (nI e) = e := nI_clamp (by omega)
        rw [q] at next
        rw [oI_s]
        refine ⟨fun _ => ⟨hin, (vp_nI (by omega)).mpr he, ?_⟩, fun z => absurd (fun y => (oI_n (show e < 2 ^ 31 by omega)).mp y) z⟩
        rintro _ rfl
        rw [ece]
        refine next _ (fu.put rfl) ?_
        unfold tF
        rw [q]
        exact tkm_f tu
  have loop1 : ∀ j i, i + j = 61 → ∀ u, fr aKu w u → (∀ e, e < i → u.1 112 e = oI none) → s_Ex (d + 70) 0 mX12_mostWith 2 [some (.ref 79), some (.int (nI f)), some (.int (nI i)), none, none] [] u (s_I Q) X := by
    intro j
    induction j with
    | zero =>
      intro i hi u fu au
      have hi : i = 61 := by omega
      subst hi
      apply xX12_mostWith_2
      unfold vX12_mostWith_2
      refine ⟨fun _ => ?_, fun z => absurd (by decide) z⟩
      exact loop2 f 0 (by omega) u fu au
    | succ j ih =>
      intro i hi u fu au
      have ec : Int32.toNatClampNeg (nI i) = i := nI_clamp (by omega)
      have h60 : ¬ ((60 : Int32) < nI i) := by
        try simp (disch := omega) only [s_Ii, s_Jj, s_Vn, forall_eq, L_m1, nI_add, nI_clamp, nI_leI, nI_ltI, nI_eq, vp_nI, pk_mul, pk_sub, Nat.zero_add, Nat.add_zero, wr_2, Classical.not_not, true_and, and_true, ne_eq, false_implies, true_implies, implies_true, not_true_eq_false, not_false_eq_true, ia_0, ia_1, za_1, ia_2, za_2, ia_3, za_3, ia_4, za_4, ia_5, za_5, ia_6, za_6, ia_7, za_7, ia_8, za_8, ia_9, za_9, ia_10, za_10, ia_11, za_11, ia_12, za_12, ia_13, za_13, ia_14, za_14, ia_15, za_15, ib_0, ib_1, zb_1, ic_0, ic_1, ic_2, ic_3, zc_1, zc_2, zc_3, id_0, id_1, id_2, id_3, zd_1, zd_2, zd_3, L_0, L_1, L_2, L_3, L_4, L_5, L_6, L_7, L_8, L_9, L_10, L_11, L_12, L_13, L_14, L_15, L_16, L_17, L_18, L_19, L_20, L_24, L_27, L_30, L_31, L_32, L_35, L_36, L_40, L_41, L_43, L_44, L_45, L_46, L_47, L_48, L_50, L_54, L_57, L_58, L_59, L_60, L_61, L_62, L_63, L_91, L_93, L_96, L_97, L_98, L_99, L_100, L_103, L_122, L_145, L_150, L_200, L_255, L_600, L_999, L_1000, L_2000, L_9999, L_10000, L_32767, L_12345, oI_s, oI_n, L_mn, if_true, if_false, ite_true, ite_false, Bool.false_eq_true, Nat.reduceEqDiff, Nat.reduceLeDiff, Nat.reduceLT, Nat.reduceAdd, Nat.reduceSub, Nat.reduceMul, Nat.le_refl, Nat.lt_irrefl, Nat.not_lt_zero]
        omega
      have hin : vp_in (nI i) 61 := by
        try simp (disch := omega) only [s_Ii, s_Jj, s_Vn, forall_eq, L_m1, nI_add, nI_clamp, nI_leI, nI_ltI, nI_eq, vp_nI, pk_mul, pk_sub, Nat.zero_add, Nat.add_zero, wr_2, Classical.not_not, true_and, and_true, ne_eq, false_implies, true_implies, implies_true, not_true_eq_false, not_false_eq_true, ia_0, ia_1, za_1, ia_2, za_2, ia_3, za_3, ia_4, za_4, ia_5, za_5, ia_6, za_6, ia_7, za_7, ia_8, za_8, ia_9, za_9, ia_10, za_10, ia_11, za_11, ia_12, za_12, ia_13, za_13, ia_14, za_14, ia_15, za_15, ib_0, ib_1, zb_1, ic_0, ic_1, ic_2, ic_3, zc_1, zc_2, zc_3, id_0, id_1, id_2, id_3, zd_1, zd_2, zd_3, L_0, L_1, L_2, L_3, L_4, L_5, L_6, L_7, L_8, L_9, L_10, L_11, L_12, L_13, L_14, L_15, L_16, L_17, L_18, L_19, L_20, L_24, L_27, L_30, L_31, L_32, L_35, L_36, L_40, L_41, L_43, L_44, L_45, L_46, L_47, L_48, L_50, L_54, L_57, L_58, L_59, L_60, L_61, L_62, L_63, L_91, L_93, L_96, L_97, L_98, L_99, L_100, L_103, L_122, L_145, L_150, L_200, L_255, L_600, L_999, L_1000, L_2000, L_9999, L_10000, L_32767, L_12345, oI_s, oI_n, L_mn, if_true, if_false, ite_true, ite_false, Bool.false_eq_true, Nat.reduceEqDiff, Nat.reduceLeDiff, Nat.reduceLT, Nat.reduceAdd, Nat.reduceSub, Nat.reduceMul, Nat.le_refl, Nat.lt_irrefl, Nat.not_lt_zero]
        omega
      apply xX12_mostWith_2
      unfold vX12_mostWith_2
      simp only [ec, nI_1 i]
      refine ⟨fun z => absurd z h60, fun _ => ⟨hin, ?_⟩⟩
      rintro _ rfl
      refine ih (i + 1) (by omega) _ (fu.put rfl) (fun e he => ?_)
      by_cases q : e = i
      · rw [q, rd_s]; rfl
      · rw [rd_j q]; exact au e (by omega)
  apply eX12_mostWith
  unfold vX12_mostWith_0
  exact loop1 61 0 rfl w (fr.refl _ _) (fun e he => absurd he (by omega))
