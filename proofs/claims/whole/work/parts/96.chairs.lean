/-! chairs on the coast -/
def sc (T : Tb) (c : Nat) : Nat := T 0 (2 * c)
def fsn (T : Tb) (q : Nat) : Nat → Option Nat
  | 0 => none
  | c + 1 => if q ≤ sc T c ∧ (∀ s, fsn T q c = some s → sc T c < s) then some (sc T c) else fsn T q c
def fs (T : Tb) (q : Nat) : Option Nat := fsn T q (T 7 0)
theorem fsn_s {T : Tb} {q : Nat} : ∀ n, match fsn T q n with
    | none => ∀ c, c < n → sc T c < q
    | some s => q ≤ s ∧ (∃ c, c < n ∧ sc T c = s) ∧ ∀ c, c < n → q ≤ sc T c → s ≤ sc T c := by
  intro n
  induction n with
  | zero => intro c hc; omega
  | succ n ih =>
    unfold fsn
    cases z : fsn T q n with
    | none =>
      rw [z] at ih
      have ih : ∀ c, c < n → sc T c < q := ih
      by_cases h : q ≤ sc T n
      · rw [if_pos ⟨h, fun s hs => by simp at hs⟩]
        refine ⟨h, ⟨n, by omega, rfl⟩, fun c hc hq => ?_⟩
        by_cases e : c = n
        · rw [e]; omega
        · have := ih c (by omega); omega
      · rw [if_neg (fun k => h k.1)]
        intro c hc
        by_cases e : c = n
        · rw [e]; omega
        · exact ih c (by omega)
    | some s =>
      rw [z] at ih
      obtain ⟨h1, ⟨c1, h2, h3⟩, h4⟩ := ih
      by_cases h : q ≤ sc T n ∧ sc T n < s
      · rw [if_pos ⟨h.1, fun s' hs => by simp at hs; omega⟩]
        refine ⟨h.1, ⟨n, by omega, rfl⟩, fun c hc hq => ?_⟩
        by_cases e : c = n
        · rw [e]; omega
        · have := h4 c (by omega) hq; omega
      · rw [if_neg (fun k => h ⟨k.1, k.2 s rfl⟩)]
        refine ⟨h1, ⟨c1, by omega, h3⟩, fun c hc hq => ?_⟩
        by_cases e : c = n
        · rw [e] at hq ⊢; omega
        · exact h4 c (by omega) hq
theorem fs_n {T : Tb} {q : Nat} (h : fs T q = none) : ∀ c, c < T 7 0 → sc T c < q := by
  have := fsn_s (T := T) (q := q) (T 7 0)
  unfold fs at h
  rw [h] at this
  exact this
theorem fs_s {T : Tb} {q s : Nat} (h : fs T q = some s) : q ≤ s ∧ (∃ c, c < T 7 0 ∧ sc T c = s) ∧ ∀ c, c < T 7 0 → q ≤ sc T c → s ≤ sc T c := by
  have := fsn_s (T := T) (q := q) (T 7 0)
  unfold fs at h
  rw [h] at this
  exact this
theorem fs_of {T : Tb} {q c : Nat} (hc : c < T 7 0) (h : q ≤ sc T c) : ∃ s, fs T q = some s ∧ s ≤ sc T c := by
  cases z : fs T q with
  | none => have := fs_n z c hc; omega
  | some s => exact ⟨s, rfl, (fs_s z).2.2 c hc h⟩
theorem fs_eq {T : Tb} {q q' s : Nat} (h : fs T q = some s) (h1 : q ≤ q') (h2 : q' ≤ s) : fs T q' = some s := by
  obtain ⟨a1, ⟨c, a2, a3⟩, a4⟩ := fs_s h
  obtain ⟨s', b1, b2⟩ := fs_of (q := q') a2 (by omega)
  obtain ⟨b3, ⟨c', b4, b5⟩, b6⟩ := fs_s b1
  have := a4 c' b4 (by omega)
  rw [b1]
  congr 1
  omega
theorem sc_lt {T : Tb} (ht : tb T) {c : Nat} (hc : c < T 7 0) : sc T c < 20 := by
  have := ht.2.1 c hc
  unfold sc
  omega
def gF (T : Tb) (r : Nat) : Nat → Nat → Nat
  | 0, _ => 0
  | f + 1, q => match fs T q with
    | none => 0
    | some s => gF T r f (s + 2 * r + 1) + 1
def gN (T : Tb) (q : Nat) : Nat := ct (fun c => decide (q ≤ sc T c)) (T 7 0)
theorem gN_lt {T : Tb} {q s q' : Nat} (h : fs T q = some s) (hq : s < q') : gN T q' < gN T q := by
  obtain ⟨a1, ⟨c, a2, a3⟩, a4⟩ := fs_s h
  have h1 : ct (fun i => decide (i = c)) (T 7 0) + gN T q' ≤ gN T q := by
    refine ct_dis (fun v _ hv => ?_) (fun v _ hv => ?_) (fun v _ h1 h2 => ?_)
    · simp at hv; simp; rw [hv]; omega
    · simp at hv; simp; omega
    · simp at h1 h2; rw [h1] at h2; omega
  have h2 : 1 ≤ ct (fun i => decide (i = c)) (T 7 0) := by
    have := sm_part (f := fun i => if decide (i = c) = true then 1 else 0) (T 7 0) a2
    simp at this
    unfold ct
    simp
    exact this
  omega
theorem gF_f {T : Tb} {r : Nat} : ∀ f q, gN T q ≤ f → gF T r (f + 1) q = gF T r f q := by
  intro f
  induction f with
  | zero =>
    intro q h
    unfold gF
    cases z : fs T q with
    | none => rfl
    | some s => have := gN_lt z (Nat.lt_succ_self s); omega
  | succ f ih =>
    intro q h
    rw [gF]
    conv => rhs; rw [gF]
    cases z : fs T q with
    | none => rfl
    | some s =>
      have := gN_lt z (q' := s + 2 * r + 1) (by omega)
      show gF T r (f + 1) _ + 1 = gF T r f _ + 1
      rw [ih _ (by omega)]
theorem gF_an {T : Tb} {r : Nat} : ∀ f q q', q ≤ q' → gF T r f q' ≤ gF T r f q := by
  intro f
  induction f with
  | zero => intro q q' _; exact Nat.le_refl _
  | succ f ih =>
    intro q q' h
    rw [gF]
    conv => rhs; rw [gF]
    cases z : fs T q' with
    | none => exact Nat.zero_le _
    | some s' =>
      obtain ⟨a1, ⟨c, a2, a3⟩, a4⟩ := fs_s z
      obtain ⟨s, b1, b2⟩ := fs_of (q := q) a2 (by omega)
      rw [b1]
      have := ih (s + 2 * r + 1) (s' + 2 * r + 1) (by omega)
      show gF T r f _ + 1 ≤ gF T r f _ + 1
      omega
def gC (T : Tb) (r q : Nat) : Nat := gF T r 6 q
theorem gN_le {T : Tb} {q : Nat} : gN T q ≤ T 7 0 := by
  have : gN T q ≤ T 7 0 * 1 := sm_le (T 7 0) (fun c _ => by show (if _ then _ else _) ≤ 1; split <;> omega)
  omega
theorem gC_s {T : Tb} {r q s : Nat} (ht : tb T) (h : fs T q = some s) : gC T r q = gC T r (s + 2 * r + 1) + 1 := by
  have hnc := tb_nc ht
  have h1 := gN_lt h (q' := s + 2 * r + 1) (by omega)
  have h2 := gN_le (T := T) (q := q)
  unfold gC
  rw [gF_f 5 (s + 2 * r + 1) (by omega), gF, h]
theorem gC_n {T : Tb} {r q : Nat} (h : fs T q = none) : gC T r q = 0 := by
  unfold gC
  rw [gF, h]
theorem gF_le {T : Tb} {r : Nat} : ∀ f q, gF T r f q ≤ gN T q := by
  intro f
  induction f with
  | zero => intro q; exact Nat.zero_le _
  | succ f ih =>
    intro q
    rw [gF]
    cases z : fs T q with
    | none => exact Nat.zero_le _
    | some s =>
      have h1 := gN_lt z (q' := s + 2 * r + 1) (by omega)
      have h2 := ih (s + 2 * r + 1)
      show gF T r f _ + 1 ≤ _
      omega
/-- the class's way -/
def chr (T : Tb) (r k : Nat) : Nat → Nat → Nat
  | 0, x => x
  | j + 1, x => if gC T r (x + r + 1) ≤ k then x else chr T r k j (x + 1)
def gr (T : Tb) (r : Nat) : Nat → Nat → Nat → Nat
  | 0, b, _ => b
  | k + 1, b, q => match fs T q with
    | none => b
    | some s => gr T r k (b ||| 2 ^ chr T r k (19 - (s - r)) (s - r)) (chr T r k (19 - (s - r)) (s - r) + r + 1)
/-- the reference's way -/
def cov (r b p : Nat) : Prop := ∃ x, x < 20 ∧ b.testBit x = true ∧ x ≤ p + r ∧ p ≤ x + r
def allc (T : Tb) (r b : Nat) : Prop := ∀ c, c < T 7 0 → cov r b (sc T c)
noncomputable def chf (g : Nat → Nat → Option Nat) (b : Nat) : Nat → Nat → Option Nat
  | 0, _ => none
  | j + 1, x => match g (x + 1) (b ||| 2 ^ x) with
    | some v => some v
    | none => chf g b j (x + 1)
noncomputable def ch (T : Tb) (r : Nat) : Nat → Nat → Nat → Option Nat
  | 0, _, b => @ite _ (allc T r b) (Classical.propDecidable _) (some b) none
  | k + 1, x, b => chf (ch T r k) b (20 - x) x
theorem chf_n {g : Nat → Nat → Option Nat} {b : Nat} : ∀ j x, (∀ y, x ≤ y → y < x + j → g (y + 1) (b ||| 2 ^ y) = none) → chf g b j x = none := by
  intro j
  induction j with
  | zero => intro x _; rfl
  | succ j ih =>
    intro x h
    rw [chf, h x (by omega) (by omega)]
    exact ih (x + 1) (fun y h1 h2 => h y (by omega) (by omega))
theorem chf_s {g : Nat → Nat → Option Nat} {b z v : Nat} : ∀ j x, x ≤ z → z < x + j → (∀ y, x ≤ y → y < z → g (y + 1) (b ||| 2 ^ y) = none) → g (z + 1) (b ||| 2 ^ z) = some v → chf g b j x = some v := by
  intro j
  induction j with
  | zero => intro x h1 h2; omega
  | succ j ih =>
    intro x h1 h2 h3 h4
    rw [chf]
    by_cases q : x = z
    · subst q; rw [h4]
    · rw [h3 x (by omega) (by omega)]
      exact ih (x + 1) (by omega) (by omega) (fun y h5 h6 => h3 y (by omega) h6) h4
theorem cov_or {r b x p : Nat} (hx : x < 20) : cov r (b ||| 2 ^ x) p ↔ cov r b p ∨ (x ≤ p + r ∧ p ≤ x + r) := by
  constructor
  · rintro ⟨y, h1, h2, h3⟩
    rw [Nat.testBit_or, Nat.testBit_two_pow, Bool.or_eq_true] at h2
    rcases h2 with h2 | h2
    · exact Or.inl ⟨y, h1, h2, h3⟩
    · have := of_decide_eq_true h2
      subst this
      exact Or.inr h3
  · rintro (⟨y, h1, h2, h3⟩ | h)
    · exact ⟨y, h1, by rw [Nat.testBit_or, h2]; rfl, h3⟩
    · exact ⟨x, hx, by rw [Nat.testBit_or, Nat.testBit_two_pow]; simp, h⟩
theorem ch_far {T : Tb} {r c : Nat} (hc : c < T 7 0) : ∀ k x b, ¬ cov r b (sc T c) → sc T c + r < x → ch T r k x b = none := by
  intro k
  induction k with
  | zero =>
    intro x b h1 h2
    exact @if_neg _ (Classical.propDecidable _) (fun h => h1 (h c hc)) _ _ _
  | succ k ih =>
    intro x b h1 h2
    refine chf_n _ _ (fun y h3 h4 => ih (y + 1) _ ?_ (by omega))
    rw [cov_or (by omega)]
    rintro (h | h)
    · exact h1 h
    · omega
theorem chr_s {T : Tb} {r k : Nat} : ∀ j x, x ≤ chr T r k j x ∧ chr T r k j x ≤ x + j ∧ (∀ y, x ≤ y → y < chr T r k j x → k < gC T r (y + r + 1)) ∧ (chr T r k j x < x + j → gC T r (chr T r k j x + r + 1) ≤ k) := by
  intro j
  induction j with
  | zero => intro x; exact ⟨Nat.le_refl _, Nat.le_refl _, fun y h1 h2 => by have h2 : y < x := h2; omega, fun h => by have h : x < x + 0 := h; omega⟩
  | succ j ih =>
    intro x
    unfold chr
    by_cases q : gC T r (x + r + 1) ≤ k
    · rw [if_pos q]
      exact ⟨Nat.le_refl _, by omega, fun y h1 h2 => by omega, fun _ => q⟩
    · rw [if_neg q]
      obtain ⟨h1, h2, h3, h4⟩ := ih (x + 1)
      refine ⟨by omega, by omega, fun y h5 h6 => ?_, fun h => h4 (by omega)⟩
      by_cases e : y = x
      · rw [e]; omega
      · exact h3 y (by omega) h6
theorem ch_gr {T : Tb} {r : Nat} (ht : tb T) : ∀ k x b q, q ≤ x + r → (x = 0 ∨ q = x + r) → (∀ c, c < T 7 0 → (cov r b (sc T c) ↔ sc T c < q)) → (k < gC T r q → ch T r k x b = none) ∧ (k = gC T r q → ch T r k x b = some (gr T r k b q)) := by
  intro k
  induction k with
  | zero =>
    intro x b q h1 h2 h3
    constructor
    · intro h
      cases z : fs T q with
      | none => rw [gC_n z] at h; omega
      | some s =>
        obtain ⟨a1, ⟨c, a2, a3⟩, _⟩ := fs_s z
        refine @if_neg _ (Classical.propDecidable _) (fun h => ?_) _ _ _
        have := (h3 c a2).mp (h c a2)
        omega
    · intro h
      cases z : fs T q with
      | none => exact @if_pos _ (Classical.propDecidable _) (fun c hc => (h3 c hc).mpr (fs_n z c hc)) _ _ _
      | some s => rw [gC_s ht z] at h; omega
  | succ k ih =>
    intro x b q h1 h2 h3
    cases z : fs T q with
    | none =>
      rw [gC_n z]
      exact ⟨fun h => by omega, fun h => by omega⟩
    | some s =>
      have hg := gC_s (r := r) ht z
      obtain ⟨a1, ⟨c, a2, a3⟩, a4⟩ := fs_s z
      have hs := sc_lt ht a2
      have hns : ¬ cov r b (sc T c) := fun h => by have := (h3 c a2).mp h; omega
      -- a chair at y at most s + r
      have step : ∀ y, x ≤ y → y < 20 → y ≤ s + r → ∀ i, i < T 7 0 → (cov r (b ||| 2 ^ y) (sc T i) ↔ sc T i < y + 1 + r) := by
        intro y hy hy2 hy3 i hi
        rw [cov_or hy2, h3 i hi]
        constructor
        · rintro (h | h) <;> omega
        · intro h
          by_cases e : sc T i < q
          · exact Or.inl e
          · have := a4 i hi (by omega)
            exact Or.inr (by omega)
      have anti : ∀ y, y ≤ s + r → gC T r (s + 2 * r + 1) ≤ gC T r (y + 1 + r) := fun y hy => gF_an 6 _ _ (by omega)
      have far : ∀ y, s + r < y → y < 20 → ch T r k (y + 1) (b ||| 2 ^ y) = none := by
        intro y hy hy2
        refine ch_far a2 k (y + 1) _ ?_ (by omega)
        rw [cov_or hy2]
        rintro (h | h)
        · exact hns h
        · omega
      constructor
      · intro h
        refine chf_n _ _ (fun y h4 h5 => ?_)
        by_cases e : y ≤ s + r
        · have := anti y e
          exact (ih (y + 1) (b ||| 2 ^ y) (y + 1 + r) (by omega) (Or.inr rfl) (step y h4 (by omega) e)).1 (by omega)
        · exact far y (by omega) (by omega)
      · intro h
        obtain ⟨c1, c2, c3, c4⟩ := chr_s (T := T) (r := r) (k := k) (19 - (s - r)) (s - r)
        have hgr : gr T r (k + 1) b q = gr T r k (b ||| 2 ^ chr T r k (19 - (s - r)) (s - r)) (chr T r k (19 - (s - r)) (s - r) + r + 1) := by
          rw [gr, z]
        rw [hgr]
        generalize chr T r k (19 - (s - r)) (s - r) = y at c1 c2 c3 c4 hgr
        have hy : y ≤ s + r := by
          apply Nat.le_of_not_lt
          intro z2
          have := c3 (s + r) (by omega) z2
          rw [show s + r + r + 1 = s + 2 * r + 1 by omega] at this
          omega
        have hyx : x ≤ y := by omega
        have hgy : gC T r (y + r + 1) ≤ k := by
          by_cases e : y < 19
          · exact c4 (by omega)
          · have : gC T r (y + r + 1) = 0 := by
              apply gC_n
              cases z3 : fs T (y + r + 1) with
              | none => rfl
              | some s3 =>
                obtain ⟨d1, ⟨i, d2, d3⟩, _⟩ := fs_s z3
                have := sc_lt ht d2
                omega
            omega
        have han := anti y hy
        rw [show y + 1 + r = y + r + 1 by omega] at han
        refine chf_s (z := y) _ _ hyx (by omega) (fun y' h4 h5 => ?_) ?_
        · have hg2 : k < gC T r (y' + r + 1) := by
            by_cases e : s - r ≤ y'
            · exact c3 y' e h5
            · have : fs T (y' + r + 1) = some s := fs_eq z (by omega) (by omega)
              rw [gC_s ht this]
              omega
          rw [show y' + r + 1 = y' + 1 + r by omega] at hg2
          exact (ih (y' + 1) (b ||| 2 ^ y') (y' + 1 + r) (by omega) (Or.inr rfl) (step y' h4 (by omega) (by omega))).1 hg2
        · have st := step y hyx (by omega) hy
          rw [show y + 1 + r = y + r + 1 by omega] at st
          exact (ih (y + 1) (b ||| 2 ^ y) (y + r + 1) (by omega) (Or.inr (by omega)) st).2 (by omega)
