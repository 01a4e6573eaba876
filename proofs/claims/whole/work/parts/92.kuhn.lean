/-! weddings one after another: who asks, who makes room -/
def clo (F : Nat → Nat → Bool) (f : Nat) (t : Nat → Option Nat) (K : Nat → Prop) : Prop := ∀ e, K e → ∃ v, t e = some v ∧ (v < f ∨ ∀ e', F v e' = true → K e')
def ijt (f : Nat) (t : Nat → Option Nat) (a : Nat → Bool) : Prop := ∀ e e' v, f ≤ v → t e = some v → t e' = some v → a e = false → a e' = false → e = e'
def fsd (F : Nat → Nat → Bool) (n f : Nat) (t : Nat → Option Nat) : Prop := ∀ e v, t e = some v → v < n ∧ (f ≤ v → F v e = true)
def occ (t : Nat → Option Nat) (a : Nat → Bool) (u : Nat) : Prop := ∃ e, a e = false ∧ t e = some u
def kP (F : Nat → Nat → Bool) (n f : Nat) (t : Nat → Option Nat) (a : Nat → Bool) (x : Nat) : Prop := fsd F n f t ∧ ijt f t a ∧ ¬ occ t a x
def kY (F : Nat → Nat → Bool) (n f : Nat) (t : Nat → Option Nat) (a : Nat → Bool) (x : Nat) (t' : Nat → Option Nat) : Prop :=
  (∀ e, a e = true → t' e = t e) ∧ (∀ e v, v < f → (t' e = some v ↔ t e = some v)) ∧ fsd F n f t' ∧ ijt f t' a ∧ occ t' a x ∧ (∀ u, f ≤ u → u ≠ x → (occ t' a u ↔ occ t a u)) ∧ ∀ K : Nat → Prop, clo F f t K → (∀ e, K e → t' e = t e) ∧ ∃ e, F x e = true ∧ ¬ K e
def kN (F : Nat → Nat → Bool) (f : Nat) (t : Nat → Option Nat) (a : Nat → Bool) (x : Nat) (a' : Nat → Bool) : Prop := (∀ e, a e = true → a' e = true) ∧ (∀ e, F x e = true → a' e = true) ∧ ∀ e, a' e = true → a e = true ∨ ∃ v, t e = some v ∧ (v < f ∨ ∀ e', F v e' = true → a' e' = true)
def upt (t : Nat → Option Nat) (e x : Nat) : Nat → Option Nat := fun i => if i = e then some x else t i
def upa (a : Nat → Bool) (e : Nat) : Nat → Bool := fun i => a i || i == e
theorem upt_s {t : Nat → Option Nat} {e x : Nat} : upt t e x e = some x := by simp [upt]
theorem upt_n {t : Nat → Option Nat} {e x i : Nat} (h : i ≠ e) : upt t e x i = t i := by simp [upt, h]
theorem upa_f {a : Nat → Bool} {e i : Nat} : upa a e i = false ↔ a i = false ∧ i ≠ e := by simp [upa]
theorem upa_t {a : Nat → Bool} {e i : Nat} : upa a e i = true ↔ a i = true ∨ i = e := by simp [upa]
theorem kP_mono {F : Nat → Nat → Bool} {n f x : Nat} {t : Nat → Option Nat} {a b : Nat → Bool} (h : kP F n f t a x) (hab : ∀ e, a e = true → b e = true) : kP F n f t b x := by
  have hf : ∀ e, b e = false → a e = false := by
    intro e he
    cases ha : a e with
    | false => rfl
    | true => rw [hab e ha] at he; exact absurd he (by decide)
  exact ⟨h.1, fun e e' v h1 h2 h3 h4 h5 => h.2.1 e e' v h1 h2 h3 (hf e h4) (hf e' h5), fun ⟨e, h1, h2⟩ => h.2.2 ⟨e, hf e h1, h2⟩⟩
theorem kY_mono {F : Nat → Nat → Bool} {n f x : Nat} {t t' : Nat → Option Nat} {a b : Nat → Bool} (h : kP F n f t a x) (hab : ∀ e, a e = true → b e = true) (k : kY F n f t b x t') : kY F n f t a x t' := by
  have hf : ∀ e, b e = false → a e = false := by
    intro e he
    cases ha : a e with
    | false => rfl
    | true => rw [hab e ha] at he; exact absurd he (by decide)
  obtain ⟨k1, k2, k3, k4, k5, k6, k7⟩ := k
  have key : ∀ e1 e2 u, f ≤ u → b e1 = true → b e2 = false → a e1 = false → t' e1 = some u → t' e2 = some u → False := by
    intro e1 e2 u hu b1 b2 a1 h1 h2
    rw [k1 e1 b1] at h1
    by_cases q : u = x
    · subst q; exact h.2.2 ⟨e1, a1, h1⟩
    · obtain ⟨e3, b3, h3⟩ := (k6 u hu q).mp ⟨e2, b2, h2⟩
      have := h.2.1 e1 e3 u hu h1 h3 a1 (hf e3 b3)
      subst this
      rw [b1] at b3
      exact absurd b3 (by decide)
  refine ⟨fun e he => k1 e (hab e he), k2, k3, fun e e' v h1 h2 h3 h4 h5 => ?_, ?_, fun u hu hx => ⟨?_, ?_⟩, k7⟩
  · cases q1 : b e with
    | false =>
      cases q2 : b e' with
      | false => exact k4 e e' v h1 h2 h3 q1 q2
      | true => exact (key e' e v h1 q2 q1 h5 h3 h2).elim
    | true =>
      cases q2 : b e' with
      | false => exact (key e e' v h1 q1 q2 h4 h2 h3).elim
      | true =>
        rw [k1 e q1] at h2
        rw [k1 e' q2] at h3
        exact h.2.1 e e' v h1 h2 h3 h4 h5
  · obtain ⟨e, h1, h2⟩ := k5
    exact ⟨e, hf e h1, h2⟩
  · rintro ⟨e, h1, h2⟩
    cases q : b e with
    | false =>
      obtain ⟨e3, b3, h3⟩ := (k6 u hu hx).mp ⟨e, q, h2⟩
      exact ⟨e3, hf e3 b3, h3⟩
    | true => exact ⟨e, h1, by rw [← k1 e q]; exact h2⟩
  · rintro ⟨e, h1, h2⟩
    cases q : b e with
    | false =>
      obtain ⟨e3, b3, h3⟩ := (k6 u hu hx).mpr ⟨e, q, h2⟩
      exact ⟨e3, hf e3 b3, h3⟩
    | true => exact ⟨e, h1, by rw [k1 e q]; exact h2⟩
theorem kY_free {F : Nat → Nat → Bool} {n f x e : Nat} {t : Nat → Option Nat} {b : Nat → Bool} (h : kP F n f t b x) (hfx : f ≤ x) (hx : x < n) (hF : F x e = true) (hb : b e = false) (ht : t e = none) : kY F n f t b x (upt t e x) := by
  refine ⟨fun i hi => upt_n (fun q => by subst q; rw [hi] at hb; exact absurd hb (by decide)), fun i v hv => ?_, fun i v hv => ?_, fun i i' v h1 h2 h3 h4 h5 => ?_, ⟨e, hb, upt_s⟩, fun u hu hux => ⟨?_, ?_⟩, fun K hK => ?_⟩
  · by_cases q : i = e
    · subst q
      rw [upt_s, ht]
      constructor
      · intro z; simp at z; omega
      · intro z; simp at z
    · rw [upt_n q]
  · by_cases q : i = e
    · subst q
      rw [upt_s] at hv
      simp at hv
      subst hv
      exact ⟨hx, fun _ => hF⟩
    · rw [upt_n q] at hv
      exact h.1 i v hv
  · by_cases q : i = e
    · by_cases q' : i' = e
      · rw [q, q']
      · subst q
        rw [upt_s] at h2
        simp at h2
        subst h2
        rw [upt_n q'] at h3
        exact (h.2.2 ⟨i', h5, h3⟩).elim
    · by_cases q' : i' = e
      · subst q'
        rw [upt_s] at h3
        simp at h3
        subst h3
        rw [upt_n q] at h2
        exact (h.2.2 ⟨i, h4, h2⟩).elim
      · rw [upt_n q] at h2
        rw [upt_n q'] at h3
        exact h.2.1 i i' v h1 h2 h3 h4 h5
  · rintro ⟨i, h1, h2⟩
    by_cases q : i = e
    · subst q
      rw [upt_s] at h2
      simp at h2
      omega
    · rw [upt_n q] at h2
      exact ⟨i, h1, h2⟩
  · rintro ⟨i, h1, h2⟩
    have q : i ≠ e := by
      intro q; subst q; rw [ht] at h2; simp at h2
    exact ⟨i, h1, by rw [upt_n q]; exact h2⟩
  · have hne : ¬ K e := by
      intro z
      obtain ⟨v, h1, _⟩ := hK e z
      rw [ht] at h1
      simp at h1
    exact ⟨fun i hi => upt_n (fun q => hne (q ▸ hi)), e, hF, hne⟩
theorem kP_deep {F : Nat → Nat → Bool} {n f x e v : Nat} {t : Nat → Option Nat} {b : Nat → Bool} (h : kP F n f t b x) (hb : b e = false) (ht : t e = some v) (hv : f ≤ v) : kP F n f t (upa b e) v := by
  refine ⟨h.1, fun i i' u h1 h2 h3 h4 h5 => h.2.1 i i' u h1 h2 h3 (upa_f.mp h4).1 (upa_f.mp h5).1, ?_⟩
  rintro ⟨i, h1, h2⟩
  obtain ⟨h3, h4⟩ := upa_f.mp h1
  exact h4 (h.2.1 i e v hv h2 ht h3 hb)
theorem kY_deep {F : Nat → Nat → Bool} {n f x e v : Nat} {t t' : Nat → Option Nat} {b : Nat → Bool} (h : kP F n f t b x) (hfx : f ≤ x) (hx : x < n) (hF : F x e = true) (hb : b e = false) (ht : t e = some v) (hv : f ≤ v) (k : kY F n f t (upa b e) v t') : kY F n f t b x (upt t' e x) := by
  obtain ⟨k1, k2, k3, k4, k5, k6, k7⟩ := k
  have hvx : v ≠ x := by
    intro q; subst q; exact h.2.2 ⟨e, hb, ht⟩
  have nox : ¬ occ t' (upa b e) x := by
    intro z
    obtain ⟨i, h1, h2⟩ := (k6 x hfx (Ne.symm hvx)).mp z
    exact h.2.2 ⟨i, (upa_f.mp h1).1, h2⟩
  have et : t' e = some v := by rw [k1 e (upa_t.mpr (Or.inr rfl))]; exact ht
  refine ⟨fun i hi => ?_, fun i u hu => ?_, fun i u hu => ?_, fun i i' u h1 h2 h3 h4 h5 => ?_, ⟨e, hb, upt_s⟩, fun u hu hux => ⟨?_, ?_⟩, fun K hK => ?_⟩
  · rw [upt_n (fun q => by subst q; rw [hi] at hb; exact absurd hb (by decide))]
    exact k1 i (upa_t.mpr (Or.inl hi))
  · by_cases q : i = e
    · subst q
      rw [upt_s, ht]
      constructor
      · intro z; simp at z; omega
      · intro z; simp at z; omega
    · rw [upt_n q]; exact k2 i u hu
  · by_cases q : i = e
    · subst q
      rw [upt_s] at hu
      simp at hu
      subst hu
      exact ⟨hx, fun _ => hF⟩
    · rw [upt_n q] at hu
      exact k3 i u hu
  · by_cases q : i = e
    · by_cases q' : i' = e
      · rw [q, q']
      · subst q
        rw [upt_s] at h2
        simp at h2
        subst h2
        rw [upt_n q'] at h3
        exact (nox ⟨i', upa_f.mpr ⟨h5, q'⟩, h3⟩).elim
    · by_cases q' : i' = e
      · subst q'
        rw [upt_s] at h3
        simp at h3
        subst h3
        rw [upt_n q] at h2
        exact (nox ⟨i, upa_f.mpr ⟨h4, q⟩, h2⟩).elim
      · rw [upt_n q] at h2
        rw [upt_n q'] at h3
        exact k4 i i' u h1 h2 h3 (upa_f.mpr ⟨h4, q⟩) (upa_f.mpr ⟨h5, q'⟩)
  · rintro ⟨i, h1, h2⟩
    by_cases q : i = e
    · subst q
      rw [upt_s] at h2
      simp at h2
      omega
    · rw [upt_n q] at h2
      by_cases qv : u = v
      · subst qv; exact ⟨e, hb, ht⟩
      · obtain ⟨i2, h3, h4⟩ := (k6 u hu qv).mp ⟨i, upa_f.mpr ⟨h1, q⟩, h2⟩
        exact ⟨i2, (upa_f.mp h3).1, h4⟩
  · rintro ⟨i, h1, h2⟩
    have : occ t' (upa b e) u := by
      by_cases qv : u = v
      · subst qv; exact k5
      · have q : i ≠ e := by
          intro q; subst q; rw [ht] at h2; simp at h2; omega
        exact (k6 u hu qv).mpr ⟨i, upa_f.mpr ⟨h1, q⟩, h2⟩
    obtain ⟨i2, h3, h4⟩ := this
    obtain ⟨h5, h6⟩ := upa_f.mp h3
    exact ⟨i2, h5, by rw [upt_n h6]; exact h4⟩
  · obtain ⟨h1, e2, h2, h3⟩ := k7 K hK
    have hne : ¬ K e := by
      intro z
      obtain ⟨v', h4, h5⟩ := hK e z
      rw [ht] at h4
      simp at h4
      subst h4
      rcases h5 with h5 | h5
      · omega
      · exact h3 (h5 e2 h2)
    refine ⟨fun i hi => ?_, e, hF, hne⟩
    rw [upt_n (i := i) (e := e) (fun q => hne (q ▸ hi))]
    exact h1 i hi
def tkm (t : Nat → Option Nat) (w : q_Sm) : Prop := ∀ e, e < 61 → w.1 112 e = oI (t e)
def akm (a : Nat → Bool) (w : q_Sm) : Prop := ∀ e, e < 61 → w.1 113 e = nI (if a e = true then 1 else 0)
def nA (a : Nat → Bool) : Nat := sm (fun e => if a e = true then 0 else 1) 61
def aKu (i _j : Nat) : Bool := i == 112 || i == 113
theorem aKu_lo (i j : Nat) (h : i < 100) : aKu i j = false := by simp [aKu]; omega
theorem nar_1 : vp_nar (if 16 = 13 then .byte else .boolean) 1 = nI 1 := by decide
theorem nar_0 : vp_nar (if 16 = 13 then .byte else .boolean) 0 = nI 0 := by decide
theorem sm_drop {f g : Nat → Nat} {e : Nat} : ∀ n, e < n → (∀ k, k < n → k ≠ e → g k = f k) → g e + 1 = f e → sm g n + 1 = sm f n := by
  intro n
  induction n with
  | zero => intro h; omega
  | succ n ih =>
    intro h h1 h2
    show sm g n + g n + 1 = sm f n + f n
    by_cases q : e = n
    · subst q
      rw [sm_c (f := g) (g := f) e (fun k hk => h1 k (by omega) (by omega))]
      omega
    · have := ih (by omega) (fun k hk hq => h1 k (by omega) hq) h2
      rw [h1 n (by omega) (by omega)]
      omega
theorem nA_up {a : Nat → Bool} {e : Nat} (he : e < 61) (h : a e = false) : nA (upa a e) + 1 = nA a := by
  unfold nA
  refine sm_drop (e := e) 61 he (fun k _ hq => ?_) ?_
  · simp [upa, hq]
  · simp [upa, h]
theorem tkm_f {t : Nat → Option Nat} {w : q_Sm} {e x : Nat} (h : tkm t w) : tkm (upt t e x) (q_wI w 112 e (nI x)) := by
  intro i hi
  by_cases q : i = e
  · subst q; rw [rd_s, upt_s]; rfl
  · rw [rd_j q, upt_n q]; exact h i hi
theorem akm_f {a : Nat → Bool} {w : q_Sm} {e : Nat} (h : akm a w) : akm (upa a e) (q_wI w 113 e (nI 1)) := by
  intro i hi
  by_cases q : i = e
  · subst q; rw [rd_s, if_pos (upa_t.mpr (Or.inr rfl))]
  · rw [rd_j q, h i hi]
    have : upa a e i = a i := by simp [upa, q]
    rw [this]
theorem fit_le {T : Tb} {v e : Nat} (ht : tb T) (hv : v < T 7 3) (h : fit T v e = true) : e < 61 := by
  have := (tb_w ht hv).2.2.2
  simp [fit] at h
  omega
theorem oI_m {t : Option Nat} (h : oI t = -1) (hb : ∀ v, t = some v → v < 2 ^ 31) : t = none := by
  cases t with
  | none => rfl
  | some v =>
    have h2 : nI v = oI none := h
    exact ((oI_n (hb v rfl)).mp h2).elim
theorem R_findsL {n f k d x : Nat} {T : Tb} {C : Nat → Nat} {X : s_Xo} {t : Nat → Option Nat} {a : Nat → Bool} {w0 : q_Sm} {Q : Int32 → q_Sm → Prop} (ht : tb T) (hf : f ≤ T 7 3)
    (rec : ∀ (a : Nat → Bool) (x : Nat) (w : q_Sm) (Q : Int32 → q_Sm → Prop), nA a + 1 ≤ k → RE T C n w → tkm t w → akm a w → kP (fit T) (T 7 3) f t a x → f ≤ x → x < T 7 3 →
      (∀ u t', fr aKu w u → tkm t' u → kY (fit T) (T 7 3) f t a x t' → Q 1 u) →
      (∀ u a', fr aKu w u → tkm t u → akm a' u → kN (fit T) f t a x a' → Q 0 u) →
      s_EvI (d + k + 2) 0 mX12_finds w [.ref 79, .int (nI x), .int (nI f)] Q X)
    (hE0 : RE T C n w0) (hP : kP (fit T) (T 7 3) f t a x) (hfx : f ≤ x) (hx : x < T 7 3)
    (hY : ∀ u t', fr aKu w0 u → tkm t' u → kY (fit T) (T 7 3) f t a x t' → Q 1 u)
    (hN : ∀ u a', fr aKu w0 u → tkm t u → akm a' u → kN (fit T) f t a x a' → Q 0 u) :
    ∀ j i, i + j = 61 → ∀ (b : Nat → Bool) (w : q_Sm), fr aKu w0 w → tkm t w → akm b w → (∀ e, a e = true → b e = true) → (∀ e, e < i → fit T x e = true → b e = true) → (∀ e, b e = true → a e = true ∨ ∃ v, t e = some v ∧ (v < f ∨ ∀ e', fit T v e' = true → b e' = true)) → nA b ≤ k →
      s_Ex (d + k + 3) 0 mX12_finds 2 [some (.ref 79), some (.int (nI x)), some (.int (nI f)), some (.int (nI i))] [] w (s_I Q) X := by
  have hnw := tb_nw ht
  intro j
  induction j with
  | zero =>
    intro i hi b w hfr htk hak hab hlo hcl hn
    have hi : i = 61 := by omega
    subst hi
    apply xX12_finds_2
    unfold vX12_finds_2
    refine ⟨fun _ => ?_, fun z => absurd (by decide) z⟩
    rw [s_Ii]
    exact hN w b hfr htk hak ⟨hab, fun e he => hlo e (fit_le ht hx he) he, hcl⟩
  | succ j ih =>
    intro i hi b w hfr htk hak hab hlo hcl hn
    have hE := hE0.f hfr aKu_lo
    have ec : Int32.toNatClampNeg (nI i) = i := nI_clamp (by omega)
    have h60 : ¬ ((60 : Int32) < nI i) := by
      try simp (disch := omega) only [s_Ii, s_Jj, s_Vn, forall_eq, L_m1, nI_add, nI_clamp, nI_leI, nI_ltI, nI_eq, vp_nI, pk_mul, pk_sub, Nat.zero_add, Nat.add_zero, wr_2, Classical.not_not, true_and, and_true, ne_eq, false_implies, true_implies, implies_true, not_true_eq_false, not_false_eq_true, ia_0, ia_1, za_1, ia_2, za_2, ia_3, za_3, ia_4, za_4, ia_5, za_5, ia_6, za_6, ia_7, za_7, ia_8, za_8, ia_9, za_9, ia_10, za_10, ia_11, za_11, ia_12, za_12, ia_13, za_13, ia_14, za_14, ia_15, za_15, ib_0, ib_1, zb_1, ic_0, ic_1, ic_2, ic_3, zc_1, zc_2, zc_3, id_0, id_1, id_2, id_3, zd_1, zd_2, zd_3, L_0, L_1, L_2, L_3, L_4, L_5, L_6, L_7, L_8, L_9, L_10, L_11, L_12, L_13, L_14, L_15, L_16, L_17, L_18, L_19, L_20, L_24, L_27, L_30, L_31, L_32, L_35, L_36, L_40, L_41, L_43, L_44, L_45, L_46, L_47, L_48, L_50, L_54, L_57, L_58, L_59, L_60, L_61, L_62, L_63, L_91, L_93, L_96, L_97, L_98, L_99, L_100, L_103, L_122, L_145, L_150, L_200, L_255, L_600, L_999, L_1000, L_2000, L_9999, L_10000, L_32767, L_12345, oI_s, oI_n, L_mn, if_true, if_false, ite_true, ite_false, Bool.false_eq_true, Nat.reduceEqDiff, Nat.reduceLeDiff, Nat.reduceLT, Nat.reduceAdd, Nat.reduceSub, Nat.reduceMul, Nat.le_refl, Nat.lt_irrefl, Nat.not_lt_zero]
      omega
    have hin : vp_in (nI i) 61 := by
      try simp (disch := omega) only [s_Ii, s_Jj, s_Vn, forall_eq, L_m1, nI_add, nI_clamp, nI_leI, nI_ltI, nI_eq, vp_nI, pk_mul, pk_sub, Nat.zero_add, Nat.add_zero, wr_2, Classical.not_not, true_and, and_true, ne_eq, false_implies, true_implies, implies_true, not_true_eq_false, not_false_eq_true, ia_0, ia_1, za_1, ia_2, za_2, ia_3, za_3, ia_4, za_4, ia_5, za_5, ia_6, za_6, ia_7, za_7, ia_8, za_8, ia_9, za_9, ia_10, za_10, ia_11, za_11, ia_12, za_12, ia_13, za_13, ia_14, za_14, ia_15, za_15, ib_0, ib_1, zb_1, ic_0, ic_1, ic_2, ic_3, zc_1, zc_2, zc_3, id_0, id_1, id_2, id_3, zd_1, zd_2, zd_3, L_0, L_1, L_2, L_3, L_4, L_5, L_6, L_7, L_8, L_9, L_10, L_11, L_12, L_13, L_14, L_15, L_16, L_17, L_18, L_19, L_20, L_24, L_27, L_30, L_31, L_32, L_35, L_36, L_40, L_41, L_43, L_44, L_45, L_46, L_47, L_48, L_50, L_54, L_57, L_58, L_59, L_60, L_61, L_62, L_63, L_91, L_93, L_96, L_97, L_98, L_99, L_100, L_103, L_122, L_145, L_150, L_200, L_255, L_600, L_999, L_1000, L_2000, L_9999, L_10000, L_32767, L_12345, oI_s, oI_n, L_mn, if_true, if_false, ite_true, ite_false, Bool.false_eq_true, Nat.reduceEqDiff, Nat.reduceLeDiff, Nat.reduceLT, Nat.reduceAdd, Nat.reduceSub, Nat.reduceMul, Nat.le_refl, Nat.lt_irrefl, Nat.not_lt_zero]
      omega
    have next := fun b w => ih (i + 1) (by omega) b w
    apply xX12_finds_2
    unfold vX12_finds_2
    simp only [ec, nar_1, nI_1 i]
    refine ⟨fun z => absurd z h60, fun _ => ⟨hin, ?_⟩⟩
    rw [hak i (by omega)]
    cases hb : b i with
    | true =>
      refine ⟨fun _ => next b w hfr htk hak hab (fun e he hF => ?_) hcl hn, fun z => absurd (by decide) z⟩
      by_cases q : e = i
      · rw [q]; exact hb
      · exact hlo e (by omega) hF
    | false =>
      refine ⟨fun z => absurd rfl z, fun _ => R_canWed (d := d + k) hE hx (by omega) ?_⟩
      cases ef : fit T x i with
      | false =>
        refine ⟨fun z => absurd rfl z, fun _ => next b w hfr htk hak hab (fun e he hF => ?_) hcl hn⟩
        by_cases q : e = i
        · rw [q, ef] at hF; exact absurd hF (by decide)
        · exact hlo e (by omega) hF
      | true =>
        refine ⟨fun _ => ⟨hin, ?_⟩, fun z => absurd (by decide) z⟩
        intro w3 e3
        have tk3 : tkm t w3 := by
          intro e he
          rw [e3, rd_i (by decide)]
          exact htk e he
        have ak3 : akm (upa b i) w3 := by rw [e3]; exact akm_f hak
        have fr3 : fr aKu w0 w3 := by rw [e3]; exact hfr.put rfl
        have hE3 := hE0.f fr3 aKu_lo
        clear e3
        have hab3 : ∀ e, a e = true → upa b i e = true := fun e he => upa_t.mpr (Or.inl (hab e he))
        have hPb := kP_mono hP hab
        have hnb := nA_up (a := b) (e := i) (by omega) hb
        have hlo3 : ∀ e, e < i + 1 → fit T x e = true → upa b i e = true := by
          intro e he hF
          by_cases q : e = i
          · exact upa_t.mpr (Or.inr q)
          · exact upa_t.mpr (Or.inl (hlo e (by omega) hF))
        rw [tk3 i (by omega)]
        refine ⟨hin, fun z => ⟨hin, ?_⟩, fun z => ⟨hin, ?_⟩⟩
        · have ht0 : t i = none := oI_m z (fun v hv => by have := (hP.1 i v hv).1; omega)
          rintro _ rfl
          rw [s_Ii]
          exact hY _ (upt t i x) (fr3.put rfl) (tkm_f tk3) (kY_mono hP hab (kY_free hPb hfx hx ef hb ht0))
        · cases hti : t i with
          | none => rw [hti] at z; exact absurd rfl z
          | some v =>
            have hv := (hP.1 i v hti).1
            rw [oI_s, nI_ltI (by omega) (by omega)]
            refine ⟨fun z2 => next _ w3 fr3 tk3 ak3 hab3 hlo3 (fun e he => ?_) (by omega), fun z2 => ⟨hin, ?_⟩⟩
            · rcases upa_t.mp he with q | q
              · rcases hcl e q with q2 | ⟨u, q2, q3⟩
                · exact Or.inl q2
                · refine Or.inr ⟨u, q2, ?_⟩
                  rcases q3 with q3 | q3
                  · exact Or.inl q3
                  · exact Or.inr (fun e' h' => upa_t.mpr (Or.inl (q3 e' h')))
              · rw [q]; exact Or.inr ⟨v, hti, Or.inl z2⟩
            · refine rec (upa b i) v w3 _ (by omega) hE3 tk3 ak3 (kP_deep hPb hb hti (by omega)) (by omega) hv (fun u t' fu tu yu => ?_) (fun u a' fu tu au nu => ?_)
              · refine ⟨fun _ => ⟨hin, ?_⟩, fun z => absurd (by decide) z⟩
                rintro _ rfl
                rw [s_Ii]
                exact hY _ (upt t' i x) ((fr3.trans fu).put rfl) (tkm_f tu) (kY_mono hP hab (kY_deep hPb hfx hx ef hb hti (by omega) yu))
              · refine ⟨fun z => absurd rfl z, fun _ => ?_⟩
                have hle : nA a' ≤ nA (upa b i) := by
                  unfold nA
                  refine sm_mon _ (fun e _ => ?_)
                  by_cases q : upa b i e = true
                  · rw [if_pos q, if_pos (nu.1 e q)]; omega
                  · rw [if_neg q]; split <;> omega
                refine next a' u (fr3.trans fu) tu au (fun e he => nu.1 e (hab3 e he)) (fun e he hF => nu.1 e (hlo3 e he hF)) (fun e he => ?_) (by omega)
                rcases nu.2.2 e he with q | q
                · rcases upa_t.mp q with q | q
                  · rcases hcl e q with q2 | ⟨y, q2, q3⟩
                    · exact Or.inl q2
                    · refine Or.inr ⟨y, q2, ?_⟩
                      rcases q3 with q3 | q3
                      · exact Or.inl q3
                      · exact Or.inr (fun e' h' => nu.1 e' (upa_t.mpr (Or.inl (q3 e' h'))))
                  · rw [q]; exact Or.inr ⟨v, hti, Or.inr nu.2.1⟩
                · exact Or.inr q
theorem R_finds {n f : Nat} {T : Tb} {C : Nat → Nat} {X : s_Xo} {t : Nat → Option Nat} (ht : tb T) (hf : f ≤ T 7 3) : ∀ k (d : Nat) (a : Nat → Bool) (x : Nat) (w : q_Sm) (Q : Int32 → q_Sm → Prop), nA a ≤ k → RE T C n w → tkm t w → akm a w → kP (fit T) (T 7 3) f t a x → f ≤ x → x < T 7 3 →
    (∀ u t', fr aKu w u → tkm t' u → kY (fit T) (T 7 3) f t a x t' → Q 1 u) →
    (∀ u a', fr aKu w u → tkm t u → akm a' u → kN (fit T) f t a x a' → Q 0 u) →
    s_EvI (d + k + 3) 0 mX12_finds w [.ref 79, .int (nI x), .int (nI f)] Q X := by
  intro k
  induction k with
  | zero =>
    intro d a x w Q hn hE htk hak hP hfx hx hY hN
    apply eX12_finds
    unfold vX12_finds_0
    exact R_findsL (k := 0) (d := d) ht hf (fun a x w Q h => absurd h (by omega)) hE hP hfx hx hY hN 61 0 rfl a w (fr.refl _ _) htk hak (fun _ h => h) (fun e he => absurd he (by omega)) (fun e he => Or.inl he) hn
  | succ k ih =>
    intro d a x w Q hn hE htk hak hP hfx hx hY hN
    apply eX12_finds
    unfold vX12_finds_0
    exact R_findsL (k := k + 1) (d := d) ht hf (fun a x w Q h => ih d a x w Q (by omega)) hE hP hfx hx hY hN 61 0 rfl a w (fr.refl _ _) htk hak (fun _ h => h) (fun e he => absurd he (by omega)) (fun e he => Or.inl he) hn
