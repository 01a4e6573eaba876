/-! which debts to end -/
def bG (T : Tb) (C : Nat → Nat) (n : Nat) (S : Nat → Nat) (d : Nat) : Nat := gw T C n S d (S d) (S (40 + d)) (S 62)
def sK (T : Tb) (S : Nat → Nat) (s k d : Nat) : Nat := if s.testBit d = true ∧ cl T d = k then S d else 0
def sC (T : Tb) (C : Nat → Nat) (n : Nat) (S : Nat → Nat) (s d : Nat) : Nat := if s.testBit d = true then 0 else bG T C n S d
def canE (T : Tb) (S : Nat → Nat) (s : Nat) : Prop := (∀ d, d < T 7 1 → s.testBit d = true → S d ≠ 0) ∧ ∀ k, k < 4 → sm (sK T S s k) (T 7 1) ≤ S (50 + k)
def cost (T : Tb) (C : Nat → Nat) (n : Nat) (S : Nat → Nat) (s : Nat) : Nat := sm (sC T C n S s) (T 7 1)
theorem cost_le {T : Tb} {C : Nat → Nat} {n : Nat} {S : Nat → Nat} (ht : tb T) (s : Nat) : cost T C n S s ≤ 990 := by
  have h1 := sm_le (f := sC T C n S s) (b := 99) (T 7 1) (fun d _ => by unfold sC; split; omega; exact gw_le)
  have h2 := tb_nd ht
  have : T 7 1 * 99 ≤ 10 * 99 := Nat.mul_le_mul_right _ h2
  unfold cost
  omega
/-- sets one after another: the first of the least -/
noncomputable def foU (T : Tb) (C : Nat → Nat) (n : Nat) (S : Nat → Nat) (s : Nat) (p : Nat × Nat) : Nat × Nat := @ite _ (canE T S s ∧ cost T C n S s < p.1) (Classical.propDecidable _) (cost T C n S s, s) p
noncomputable def fo (T : Tb) (C : Nat → Nat) (n : Nat) (S : Nat → Nat) (a : Nat) (p : Nat × Nat) : Nat → Nat × Nat
  | 0 => p
  | k + 1 => foU T C n S (a + k) (fo T C n S a p k)
theorem foU_y {T : Tb} {C : Nat → Nat} {n : Nat} {S : Nat → Nat} {s : Nat} {p : Nat × Nat} (h : canE T S s) (h2 : cost T C n S s < p.1) : foU T C n S s p = (cost T C n S s, s) := @if_pos _ (Classical.propDecidable _) ⟨h, h2⟩ _ _ _
theorem foU_n {T : Tb} {C : Nat → Nat} {n : Nat} {S : Nat → Nat} {s : Nat} {p : Nat × Nat} (h : ¬ (canE T S s ∧ cost T C n S s < p.1)) : foU T C n S s p = p := @if_neg _ (Classical.propDecidable _) h _ _ _
theorem fo_add {T : Tb} {C : Nat → Nat} {n : Nat} {S : Nat → Nat} {a b : Nat} {p : Nat × Nat} : ∀ k, fo T C n S a p (b + k) = fo T C n S (a + b) (fo T C n S a p b) k := by
  intro k
  induction k with
  | zero => rfl
  | succ k ih =>
    show foU T C n S (a + (b + k)) (fo T C n S a p (b + k)) = foU T C n S (a + b + k) (fo T C n S (a + b) (fo T C n S a p b) k)
    rw [ih, Nat.add_assoc]
theorem fo_same {T : Tb} {C : Nat → Nat} {n : Nat} {S : Nat → Nat} {a : Nat} {p : Nat × Nat} : ∀ m, (∀ k, k < m → ¬ (canE T S (a + k) ∧ cost T C n S (a + k) < p.1)) → fo T C n S a p m = p := by
  intro m
  induction m with
  | zero => intro _; rfl
  | succ m ih =>
    intro h
    show foU T C n S (a + m) (fo T C n S a p m) = p
    rw [ih (fun k hk => h k (by omega)), foU_n (h m (by omega))]
theorem sm_front (f : Nat → Nat) : ∀ n, sm f (n + 1) = f 0 + sm (fun t => f (t + 1)) n := by
  intro n
  induction n with
  | zero => simp [sm]
  | succ n ih =>
    show sm f (n + 1) + f (n + 1) = f 0 + (sm (fun t => f (t + 1)) n + f (n + 1))
    rw [ih]
    omega
theorem sm_split (f : Nat → Nat) (s : Nat) : ∀ k, sm f (s + k) = sm f s + sm (fun o => f (s + o)) k := by
  intro k
  induction k with
  | zero => rfl
  | succ k ih =>
    show sm f (s + k) + f (s + k) = sm f s + (sm (fun o => f (s + o)) k + f (s + k))
    rw [ih]
    omega
def hiK (T : Tb) (S : Nat → Nat) (q j k : Nat) : Nat := sm (fun t => if q.testBit t = true ∧ cl T (j + t) = k then S (j + t) else 0) (T 7 1 - j)
def hiG (T : Tb) (C : Nat → Nat) (n : Nat) (S : Nat → Nat) (q j : Nat) : Nat := sm (fun t => if q.testBit t = true then 0 else bG T C n S (j + t)) (T 7 1 - j)
theorem tb2_0 (q : Nat) : (2 * q).testBit 0 = false := by simp [Nat.testBit_zero]
theorem tb2_1 (q : Nat) : (2 * q + 1).testBit 0 = true := by simp [Nat.testBit_zero]
theorem tb2_s0 (q t : Nat) : (2 * q).testBit (t + 1) = q.testBit t := by rw [Nat.testBit_succ]; congr 1; omega
theorem tb2_s1 (q t : Nat) : (2 * q + 1).testBit (t + 1) = q.testBit t := by rw [Nat.testBit_succ]; congr 1; omega
theorem hiG_0 {T : Tb} {C : Nat → Nat} {n : Nat} {S : Nat → Nat} {q i : Nat} (hi : i < T 7 1) : hiG T C n S (2 * q) i = bG T C n S i + hiG T C n S q (i + 1) := by
  unfold hiG
  rw [show T 7 1 - i = (T 7 1 - (i + 1)) + 1 by omega, sm_front]
  simp only [tb2_0, tb2_s0, Bool.false_eq_true, if_false, Nat.add_zero]
  congr 2
  funext t
  rw [show i + (t + 1) = i + 1 + t by omega]
theorem hiG_1 {T : Tb} {C : Nat → Nat} {n : Nat} {S : Nat → Nat} {q i : Nat} (hi : i < T 7 1) : hiG T C n S (2 * q + 1) i = hiG T C n S q (i + 1) := by
  unfold hiG
  rw [show T 7 1 - i = (T 7 1 - (i + 1)) + 1 by omega, sm_front]
  simp only [tb2_1, tb2_s1, if_true, Nat.zero_add]
  congr 1
  funext t
  rw [show i + (t + 1) = i + 1 + t by omega]
theorem hiK_0 {T : Tb} {S : Nat → Nat} {q i k : Nat} (hi : i < T 7 1) : hiK T S (2 * q) i k = hiK T S q (i + 1) k := by
  unfold hiK
  rw [show T 7 1 - i = (T 7 1 - (i + 1)) + 1 by omega, sm_front]
  simp only [tb2_0, tb2_s0, Bool.false_eq_true, false_and, if_false, Nat.zero_add]
  congr 1
  funext t
  rw [show i + (t + 1) = i + 1 + t by omega]
theorem hiK_1 {T : Tb} {S : Nat → Nat} {q i k : Nat} (hi : i < T 7 1) : hiK T S (2 * q + 1) i k = (if cl T i = k then S i else 0) + hiK T S q (i + 1) k := by
  unfold hiK
  rw [show T 7 1 - i = (T 7 1 - (i + 1)) + 1 by omega, sm_front]
  simp only [tb2_1, tb2_s1, true_and, Nat.add_zero]
  congr 2
  funext t
  rw [show i + (t + 1) = i + 1 + t by omega]
theorem bit_hi {j q t d : Nat} (ht : t < 2 ^ j) : (2 ^ j * q + t).testBit (j + d) = q.testBit d := by
  rw [Nat.testBit_two_pow_mul_add _ ht, if_neg (by omega), Nat.add_sub_cancel_left]
theorem cost_hi {T : Tb} {C : Nat → Nat} {n : Nat} {S : Nat → Nat} {j q t : Nat} (hj : j ≤ T 7 1) (ht : t < 2 ^ j) : cost T C n S (2 ^ j * q + t) = sm (sC T C n S (2 ^ j * q + t)) j + hiG T C n S q j := by
  unfold cost hiG
  have e := sm_split (sC T C n S (2 ^ j * q + t)) j (T 7 1 - j)
  rw [show j + (T 7 1 - j) = T 7 1 by omega] at e
  rw [e]
  congr 1
  refine sm_c _ (fun d _ => ?_)
  unfold sC
  rw [bit_hi ht]
theorem used_hi {T : Tb} {S : Nat → Nat} {j q t k : Nat} (hj : j ≤ T 7 1) (ht : t < 2 ^ j) : sm (sK T S (2 ^ j * q + t) k) (T 7 1) = sm (sK T S (2 ^ j * q + t) k) j + hiK T S q j k := by
  unfold hiK
  have e := sm_split (sK T S (2 ^ j * q + t) k) j (T 7 1 - j)
  rw [show j + (T 7 1 - j) = T 7 1 by omega] at e
  rw [e]
  congr 1
  refine sm_c _ (fun d _ => ?_)
  unfold sK
  rw [bit_hi ht]
def aB (i _j : Nat) : Bool := i == 70 || i == 72
theorem aB_lo (i j : Nat) (h : i < 38 ∨ i = 40 ∨ i = 41) : aB i j = false := by simp [aB]; omega
theorem K_branch {o l n : Nat} {T : Tb} {β C S : Nat → Nat} {X : s_Xo} (ht : tb T) (hB : rb T S) : ∀ j, j ≤ T 7 1 → ∀ (d q : Nat) (p : Nat × Nat) (x : Nat → Nat) (w : q_Sm) (Q : q_Sm → Prop), KE o l T β C n w → cR 57 S w → (∀ e, e < T 7 1 → w.1 71 e = nI (bG T C n S e)) →
    q < 2 ^ (T 7 1 - j) → (∀ e, j + e < T 7 1 → q.testBit e = true → S (j + e) ≠ 0) → (∀ k, k < 4 → w.1 72 k = nI (x k) ∧ x k + hiK T S q j k = S (50 + k)) → w.1 70 2 = nI p.1 → w.1 70 3 = nI p.2 → p.1 < 2 ^ 31 →
    (∀ u, fr aB w u → (∀ k, k < 4 → u.1 72 k = nI (x k)) → u.1 70 2 = nI (fo T C n S (2 ^ j * q) p (2 ^ j)).1 → u.1 70 3 = nI (fo T C n S (2 ^ j * q) p (2 ^ j)).2 → (fo T C n S (2 ^ j * q) p (2 ^ j)).1 < 2 ^ 31 → Q u) →
    s_EvV (d + 3 * j + 3) 0 mX3_branch w [.ref 70, .int (nI j - 1), .int (nI (2 ^ j * q)), .int (nI (hiG T C n S q j)), .ref 56, .ref o] Q X := by
  have hnd := tb_nd ht
  have hgle : ∀ q j, hiG T C n S q j ≤ 990 := by
    intro q j
    have h1 := sm_le (f := fun t => if q.testBit t = true then 0 else bG T C n S (j + t)) (b := 99) (T 7 1 - j) (fun d _ => by show (if _ then _ else _) ≤ 99; split; omega; exact gw_le)
    have : (T 7 1 - j) * 99 ≤ 10 * 99 := Nat.mul_le_mul_right _ (by omega)
    unfold hiG
    omega
  intro j
  induction j with
  | zero =>
    intro _ d q p x w Q hE hS h71 hq hnz hx h2 h3 hp h
    have hg := hgle q 0
    apply eX3_branch
    unfold vX3_branch_0
    rw [h2]
    have e1 : fo T C n S (2 ^ 0 * q) p (2 ^ 0) = foU T C n S q p := by
      show foU T C n S (2 ^ 0 * q + 0) p = _
      rw [show 2 ^ 0 * q + 0 = q by simp]
    have e2 : cost T C n S q = hiG T C n S q 0 := by
      have := cost_hi (T := T) (C := C) (n := n) (S := S) (j := 0) (q := q) (t := 0) (by omega) (by simp)
      rw [show 2 ^ 0 * q + 0 = q by simp] at this
      rw [this]
      simp [sm]
    refine ⟨fun z => ⟨fun z2 => absurd z2 (by decide), fun _ => ?_⟩, fun z => ⟨rfl, ?_⟩⟩
    · rw [nI_ltI (by omega) hp] at z
      have hce : canE T S q := by
        refine ⟨fun e he hb => ?_, fun k hk => ?_⟩
        · have := hnz e (by omega) hb
          rw [Nat.zero_add] at this
          exact this
        · have := used_hi (T := T) (S := S) (j := 0) (q := q) (t := 0) (k := k) (by omega) (by simp)
          rw [show 2 ^ 0 * q + 0 = q by simp] at this
          rw [this]
          have := (hx k hk).2
          simp only [sm]
          omega
      have e3 : fo T C n S (2 ^ 0 * q) p (2 ^ 0) = (hiG T C n S q 0, q) := by rw [e1, foU_y hce (by rw [e2]; exact z), e2]
      rintro _ rfl _ rfl
      rw [e3] at h
      refine ⟨rfl, h _ ((fr.wr rfl).put rfl) (fun k hk => ?_) ?_ ?_ (by show hiG T C n S q 0 < 2 ^ 31; omega)⟩
      · rw [rd_i (by omega), rd_i (by omega)]; exact (hx k hk).1
      · rw [rd_j (by omega), rd_s]
      · rw [rd_s, show 2 ^ 0 * q = q by simp]
    · rw [nI_ltI (by omega) hp] at z
      have e3 : fo T C n S (2 ^ 0 * q) p (2 ^ 0) = p := by rw [e1, foU_n (fun hh => z (by rw [← e2]; exact hh.2))]
      rw [e3] at h
      exact h w (fr.refl _ _) (fun k hk => (hx k hk).1) h2 h3 hp
  | succ i ih =>
    intro hj d q p x w Q hE hS h71 hq hnz hx h2 h3 hp h
    have hg := hgle q (i + 1)
    have hgi : bG T C n S i ≤ 99 := gw_le
    have hdi : i < T 7 1 := by omega
    have hcl := tb_cl ht hdi
    have hbi := hB.1 i hdi
    have hp2 : (2 : Nat) ^ (i + 1) = 2 ^ i + 2 ^ i := by rw [Nat.pow_succ]; omega
    have hq2 : (2 : Nat) ^ (T 7 1 - i) = 2 * 2 ^ (T 7 1 - (i + 1)) := by rw [show T 7 1 - i = (T 7 1 - (i + 1)) + 1 by omega, Nat.pow_succ]; omega
    have eb : 2 ^ (i + 1) * q = 2 ^ i * (2 * q) := by rw [Nat.pow_succ, Nat.mul_assoc]
    have eb1 : 2 ^ i * (2 * q) + 2 ^ i = 2 ^ i * (2 * q + 1) := by rw [Nat.mul_add, Nat.mul_one]
    have hoo := hE.1
    apply eX3_branch
    unfold vX3_branch_0
    rw [h2]
    refine ⟨fun z => ⟨fun _ => ?_, fun z2 => absurd (show nI 0 ≤ nI (i + 1) - 1 by rw [L_1, pk_sub (by omega)]; exact nI_le (by omega) (by omega)) z2⟩, fun z => ⟨rfl, ?_⟩⟩
    · have ex : nI (i + 1) - 1 = nI i := by rw [L_1, pk_sub (by omega)]; rfl
      rw [ex, nI_clamp (by omega), h71 i hdi, nI_add]
      refine ⟨(vp_nI (by omega)).mpr (by omega), ?_⟩
      have e5 : hiG T C n S q (i + 1) + bG T C n S i = hiG T C n S (2 * q) i := by rw [hiG_0 hdi]; omega
      rw [e5, eb, show d + 3 * (i + 1) + 2 = (d + 2) + 3 * i + 3 by omega]
      refine ih (by omega) (d + 2) (2 * q) p x w _ hE hS h71 (by omega) (fun e he hb => ?_) (fun k hk => ?_) h2 h3 hp (fun u hu a1 a2 a3 a4 => ?_)
      · cases e with
        | zero => rw [tb2_0] at hb; cases hb
        | succ e =>
          rw [tb2_s0] at hb
          have := hnz e (by omega) hb
          rw [show i + (e + 1) = i + 1 + e by omega]
          exact this
      · rw [hiK_0 hdi]; exact hx k hk
      have hEu := hE.f hu aB_lo
      have hSu : cR 57 S u := hS.eq (fun j => hu.2 _ _ rfl)
      have skip : (∀ t, t < 2 ^ i → ¬ canE T S (2 ^ i * (2 * q + 1) + t)) → Q u := by
        intro hsk
        have e6 : fo T C n S (2 ^ (i + 1) * q) p (2 ^ (i + 1)) = fo T C n S (2 ^ i * (2 * q)) p (2 ^ i) := by
          rw [eb, hp2, fo_add, eb1, fo_same _ (fun k hk hh => hsk k hk hh.1)]
        rw [e6] at h
        exact h u hu a1 a2 a3 a4
      refine ⟨q_id_of rfl, K_owed (Or.inl rfl) hSu (by omega) ?_⟩
      rw [za_4 hoo, hEu.col hdi, nI_clamp (n := cl T i) (by omega), (show u.1 72 (cl T i) = nI (x (cl T i)) from a1 _ hcl)]
      refine ⟨ia_0 hoo, ia_4 hoo, (vp_nI (by omega)).mpr (by omega), fun z1 => ⟨rfl, skip (fun t ht2 hc => ?_)⟩, fun z1 => ⟨(vp_nI (by omega)).mpr hcl, fun z2 => ⟨rfl, skip (fun t ht2 hc => ?_)⟩, fun z2 => ?_⟩⟩
      · have z1 : nI (S i) ≤ nI 0 := z1
        rw [nI_leI (by omega) (by omega)] at z1
        have hb := hc.1 i hdi (by
          have this : (2 ^ i * (2 * q + 1) + t).testBit i = (2 * q + 1).testBit 0 := bit_hi (j := i) (q := 2 * q + 1) (t := t) (d := 0) ht2
          rw [this]
          exact tb2_1 q)
        omega
      · have hxk := (hx (cl T i) hcl)
        have hx2 : x (cl T i) ≤ 139 := by
          have := rb_left ht hB hcl
          omega
        rw [nI_ltI (by omega) (by omega)] at z2
        have hu2 := hc.2 (cl T i) hcl
        rw [used_hi (by omega) ht2, hiK_1 hdi, if_pos rfl] at hu2
        omega
      · have hxk := (hx (cl T i) hcl)
        have hx2 : x (cl T i) ≤ 139 := by
          have := rb_left ht hB hcl
          omega
        have z1' : ¬ nI (S i) ≤ nI 0 := z1
        rw [nI_leI (by omega) (by omega)] at z1'
        rw [nI_ltI (by omega) (by omega)] at z2
        refine ⟨(vp_nI (by omega)).mpr hcl, (vp_nI (by omega)).mpr hcl, ?_⟩
        rintro _ rfl
        have hbb : (2 : Nat) ^ i * (2 * q) < 2 ^ 11 := by
          have h7 : 2 * q < 2 ^ (T 7 1 - i) := by omega
          have h8 : 2 ^ i * (2 * q) < 2 ^ i * 2 ^ (T 7 1 - i) := Nat.mul_lt_mul_of_pos_left h7 (Nat.pos_of_ne_zero (by simp))
          rw [← Nat.pow_add, show i + (T 7 1 - i) = T 7 1 by omega] at h8
          have h9 : (2 : Nat) ^ T 7 1 ≤ 2 ^ 10 := Nat.pow_le_pow_right (by omega) hnd
          omega
        have eor : nI (2 ^ i * (2 * q)) ||| (1 <<< (nI i &&& 31)) = nI (2 ^ i * (2 * q + 1)) := by
          rw [show (1 : Int32) <<< (nI i &&& 31) = nI (2 ^ i) from bi_1 (by omega), bi_or, ← eb, Nat.pow_succ]
          congr 1
          have := Nat.two_pow_add_eq_or_of_lt (i := i + 1) (b := 2 ^ i) (Nat.pow_lt_pow_right (by omega) (by omega)) q
          rw [← Nat.pow_succ, ← this, eb, eb1]
        have e7 : hiG T C n S q (i + 1) = hiG T C n S (2 * q + 1) i := (hiG_1 hdi).symm
        rw [eor, e7, pk_sub (show S i ≤ x (cl T i) by omega)]
        refine ih (by omega) (d + 2) (2 * q + 1) (fo T C n S (2 ^ i * (2 * q)) p (2 ^ i)) (up x (cl T i) (x (cl T i) - S i)) _ _ (hEu.f (fr.wr (A := aB) rfl) aB_lo) (hSu.eq (fun j => rd_i (by omega))) (fun e he => by rw [rd_i (by omega), hu.2 _ _ rfl]; exact h71 e he) (by omega) (fun e he hb => ?_) (fun k hk => ?_) (by rw [rd_i (by omega)]; exact a2) (by rw [rd_i (by omega)]; exact a3) a4 (fun u9 hu9 c1 c2 c3 c4 => ?_)
        · cases e with
          | zero => rw [Nat.add_zero]; omega
          | succ e =>
            rw [tb2_s1] at hb
            have := hnz e (by omega) hb
            rw [show i + (e + 1) = i + 1 + e by omega]
            exact this
        · rw [hiK_1 hdi]
          by_cases q9 : k = cl T i
          · subst q9
            rw [rd_s, up_s, if_pos rfl]
            exact ⟨rfl, by omega⟩
          · rw [rd_j q9, up_n q9, if_neg (fun z => q9 z.symm), Nat.zero_add]
            exact ⟨a1 k hk, (hx k hk).2⟩
        · have c1c := c1 (cl T i) hcl
          rw [up_s] at c1c
          rw [c1c, nI_add, show x (cl T i) - S i + S i = x (cl T i) by omega]
          refine ⟨(vp_nI (by omega)).mpr hcl, (vp_nI (by omega)).mpr hcl, ?_⟩
          rintro _ rfl
          have e6 : fo T C n S (2 ^ (i + 1) * q) p (2 ^ (i + 1)) = fo T C n S (2 ^ i * (2 * q + 1)) (fo T C n S (2 ^ i * (2 * q)) p (2 ^ i)) (2 ^ i) := by
            rw [eb, hp2, fo_add, eb1]
          rw [e6] at h
          refine ⟨rfl, h _ (((hu.put rfl).trans hu9).put rfl) (fun k hk => ?_) (by rw [rd_i (by omega)]; exact c2) (by rw [rd_i (by omega)]; exact c3) c4⟩
          by_cases q9 : k = cl T i
          · subst q9; rw [rd_s]
          · have := c1 k hk
            rw [up_n q9] at this
            rw [rd_j q9]
            exact this
    · rw [nI_ltI (by omega) hp] at z
      have e6 : fo T C n S (2 ^ (i + 1) * q) p (2 ^ (i + 1)) = p := by
        refine fo_same _ (fun t ht2 hh => ?_)
        rw [cost_hi (by omega) ht2] at hh
        omega
      rw [e6] at h
      exact h w (fr.refl _ _) (fun k hk => (hx k hk).1) h2 h3 hp
