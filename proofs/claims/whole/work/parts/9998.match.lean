/-! weddings matched, in the class -/
def bE (x0 : Int32) : Int32 := ((((((((x0 - (((Int32.toUInt32 x0 >>> (Int32.toUInt32 1 &&& Int32.toUInt32 31)).toInt32) &&& 1431655765)) &&& 858993459) + (((Int32.toUInt32 (x0 - (((Int32.toUInt32 x0 >>> (Int32.toUInt32 1 &&& Int32.toUInt32 31)).toInt32) &&& 1431655765)) >>> (Int32.toUInt32 2 &&& Int32.toUInt32 31)).toInt32) &&& 858993459)) + ((Int32.toUInt32 (((x0 - (((Int32.toUInt32 x0 >>> (Int32.toUInt32 1 &&& Int32.toUInt32 31)).toInt32) &&& 1431655765)) &&& 858993459) + (((Int32.toUInt32 (x0 - (((Int32.toUInt32 x0 >>> (Int32.toUInt32 1 &&& Int32.toUInt32 31)).toInt32) &&& 1431655765)) >>> (Int32.toUInt32 2 &&& Int32.toUInt32 31)).toInt32) &&& 858993459)) >>> (Int32.toUInt32 4 &&& Int32.toUInt32 31)).toInt32)) &&& 252645135) + ((Int32.toUInt32 (((((x0 - (((Int32.toUInt32 x0 >>> (Int32.toUInt32 1 &&& Int32.toUInt32 31)).toInt32) &&& 1431655765)) &&& 858993459) + (((Int32.toUInt32 (x0 - (((Int32.toUInt32 x0 >>> (Int32.toUInt32 1 &&& Int32.toUInt32 31)).toInt32) &&& 1431655765)) >>> (Int32.toUInt32 2 &&& Int32.toUInt32 31)).toInt32) &&& 858993459)) + ((Int32.toUInt32 (((x0 - (((Int32.toUInt32 x0 >>> (Int32.toUInt32 1 &&& Int32.toUInt32 31)).toInt32) &&& 1431655765)) &&& 858993459) + (((Int32.toUInt32 (x0 - (((Int32.toUInt32 x0 >>> (Int32.toUInt32 1 &&& Int32.toUInt32 31)).toInt32) &&& 1431655765)) >>> (Int32.toUInt32 2 &&& Int32.toUInt32 31)).toInt32) &&& 858993459)) >>> (Int32.toUInt32 4 &&& Int32.toUInt32 31)).toInt32)) &&& 252645135) >>> (Int32.toUInt32 8 &&& Int32.toUInt32 31)).toInt32)) + ((Int32.toUInt32 ((((((x0 - (((Int32.toUInt32 x0 >>> (Int32.toUInt32 1 &&& Int32.toUInt32 31)).toInt32) &&& 1431655765)) &&& 858993459) + (((Int32.toUInt32 (x0 - (((Int32.toUInt32 x0 >>> (Int32.toUInt32 1 &&& Int32.toUInt32 31)).toInt32) &&& 1431655765)) >>> (Int32.toUInt32 2 &&& Int32.toUInt32 31)).toInt32) &&& 858993459)) + ((Int32.toUInt32 (((x0 - (((Int32.toUInt32 x0 >>> (Int32.toUInt32 1 &&& Int32.toUInt32 31)).toInt32) &&& 1431655765)) &&& 858993459) + (((Int32.toUInt32 (x0 - (((Int32.toUInt32 x0 >>> (Int32.toUInt32 1 &&& Int32.toUInt32 31)).toInt32) &&& 1431655765)) >>> (Int32.toUInt32 2 &&& Int32.toUInt32 31)).toInt32) &&& 858993459)) >>> (Int32.toUInt32 4 &&& Int32.toUInt32 31)).toInt32)) &&& 252645135) + ((Int32.toUInt32 (((((x0 - (((Int32.toUInt32 x0 >>> (Int32.toUInt32 1 &&& Int32.toUInt32 31)).toInt32) &&& 1431655765)) &&& 858993459) + (((Int32.toUInt32 (x0 - (((Int32.toUInt32 x0 >>> (Int32.toUInt32 1 &&& Int32.toUInt32 31)).toInt32) &&& 1431655765)) >>> (Int32.toUInt32 2 &&& Int32.toUInt32 31)).toInt32) &&& 858993459)) + ((Int32.toUInt32 (((x0 - (((Int32.toUInt32 x0 >>> (Int32.toUInt32 1 &&& Int32.toUInt32 31)).toInt32) &&& 1431655765)) &&& 858993459) + (((Int32.toUInt32 (x0 - (((Int32.toUInt32 x0 >>> (Int32.toUInt32 1 &&& Int32.toUInt32 31)).toInt32) &&& 1431655765)) >>> (Int32.toUInt32 2 &&& Int32.toUInt32 31)).toInt32) &&& 858993459)) >>> (Int32.toUInt32 4 &&& Int32.toUInt32 31)).toInt32)) &&& 252645135) >>> (Int32.toUInt32 8 &&& Int32.toUInt32 31)).toInt32)) >>> (Int32.toUInt32 16 &&& Int32.toUInt32 31)).toInt32)) &&& 63)
theorem bE_ok : ∀ s, s < 64 → bE (nI s) = nI (pc s) := by decide +kernel
theorem K_bits {d s : Nat} {w : q_Sm} {Q : Int32 → q_Sm → Prop} {X : s_Xo} (hs : s < 64) (h : Q (nI (pc s)) w) : s_EvI (d + 1) 0 mK_bits w [.int (nI s)] Q X := by
  apply eK_bits
  unfold vK_bits_0
  show s_I Q (some (.int (bE (nI s)))) w
  rw [bE_ok s hs, s_Ii]
  exact h
theorem rj_s {w : q_Sm} {a k : Nat} {v : Int64} : (q_wJ w a k v).2.1 a k = v := by simp [q_wJ, q_up]
theorem rj_n {w : q_Sm} {a k i j : Nat} {v : Int64} (h : ¬ (i = a ∧ j = k)) : (q_wJ w a k v).2.1 i j = w.2.1 i j := by
  show (if i = a then (if j = k then v else w.2.1 i j) else w.2.1 i j) = w.2.1 i j
  by_cases q : i = a
  · rw [if_pos q, if_neg (fun z => h ⟨q, z⟩)]
  · rw [if_neg q]
theorem m1_t : ∀ e, e < 64 → (-1 : Int64).toBitVec.getLsbD e = true := by decide +kernel
theorem lN_t (n : Nat) {e : Nat} (he : e < 64) : (lN n).toBitVec.getLsbD e = n.testBit e := by
  rw [wb_tb, BitVec.getLsbD_ofNat]
  simp [he]
/-- what is in a and not in t -/
theorem mx_nd {a : Nat} (t : Nat) (ha : a < 2 ^ 61) : ∃ c, c < 2 ^ 61 ∧ lN a &&& (lN t ^^^ (-1 : Int64)) = lN c ∧ ∀ e, e < 64 → c.testBit e = (a.testBit e && !t.testBit e) := by
  obtain ⟨c, hc, ec⟩ := wb_of (lN a &&& (lN t ^^^ (-1 : Int64)))
  have ht : ∀ e, e < 64 → c.testBit e = (a.testBit e && !t.testBit e) := by
    intro e he
    rw [← lN_t c he, ← ec, Int64.toBitVec_and, BitVec.getLsbD_and, Int64.toBitVec_xor, BitVec.getLsbD_xor, lN_t a he, lN_t t he, m1_t e he]
    simp
  refine ⟨c, Nat.lt_pow_two_of_testBit _ (fun i hi => ?_), ec, ht⟩
  by_cases q : i < 64
  · rw [ht i q, Nat.testBit_lt_two_pow (Nat.lt_of_lt_of_le ha (Nat.pow_le_pow_right (by decide) hi))]
    rfl
  · exact Nat.testBit_lt_two_pow (Nat.lt_of_lt_of_le hc (Nat.pow_le_pow_right (by decide) (by omega)))
def an (T : Tb) (s : Nat) (x : Int64) : Prop := ∃ c, x = lN c ∧ c < 2 ^ 61 ∧ ∀ e, c.testBit e = (decide (e < 61) && anyf T s e 6)
theorem ts_2 : ∀ v, v < 6 → ∀ k, k < 32 → k < 2 ^ v → ∀ i, i < 6 → (2 ^ v + k).testBit i = (decide (i = v) || k.testBit i) := by decide +kernel
theorem anyf_2 {T : Tb} {v k e : Nat} (hv : v < 6) (hk : k < 2 ^ v) : anyf T (2 ^ v + k) e 6 = (anyf T k e 6 || fit T v e) := by
  have h5 : 2 ^ v ≤ 2 ^ 5 := Nat.pow_le_pow_right (by decide) (by omega)
  have h32 : k < 32 := by omega
  rw [Bool.eq_iff_iff, anyf_iff, Bool.or_eq_true, anyf_iff]
  constructor
  · rintro ⟨i, hi, h1, h2⟩
    rw [ts_2 v hv k h32 hk i hi] at h1
    simp at h1
    rcases h1 with h1 | h1
    · exact Or.inr (h1 ▸ h2)
    · exact Or.inl ⟨i, hi, h1, h2⟩
  · rintro (⟨i, hi, h1, h2⟩ | h2)
    · exact ⟨i, hi, by rw [ts_2 v hv k h32 hk i hi, h1]; simp, h2⟩
    · exact ⟨v, hv, by rw [ts_2 v hv k h32 hk v hv]; simp, h2⟩
theorem an_0 (T : Tb) : an T 0 0 := ⟨0, rfl, by decide, fun e => by simp [anyf]⟩
theorem an_2 {T : Tb} {v k : Nat} {x : Int64} (hv : v < 6) (hk : k < 2 ^ v) (h : an T k x) : an T (2 ^ v + k) (x ||| lN (fbN T v 61)) := by
  obtain ⟨c, rfl, hc, hb⟩ := h
  have hf := fbN_lt (T := T) (v := v) 61 (by omega)
  have h4 : (2 : Nat) ^ 61 < 2 ^ 64 := by decide
  refine ⟨c ||| fbN T v 61, wb_or (by omega) (by omega), Nat.or_lt_two_pow hc hf, fun e => ?_⟩
  rw [Nat.testBit_or, hb, fbN_t, anyf_2 hv hk, Bool.and_or_distrib_left]
theorem sh_1 : ∀ v, v < 7 → (1 : Int32) <<< (nI v &&& 31) = nI (2 ^ v) := by decide +kernel
def mF (T : Tb) (w : q_Sm) : Prop := (∀ x, x < T 7 3 → w.2.1 74 x = lN (fbN T x 61)) ∧ ∀ s, s < 2 ^ T 7 3 → an T s (w.2.1 75 s)
theorem K_findFitting {d o l n : Nat} {T : Tb} {β C : Nat → Nat} {w : q_Sm} {Q : q_Sm → Prop} {X : s_Xo} (hE : KE o l T β C n w) (h75 : w.2.1 75 0 = 0) (h : ∀ u, u.1 = w.1 → u.2.2 = w.2.2 → u.2.1 75 0 = 0 → mF T u → Q u) : s_EvV (d + 3) 0 mX7_findFitting w [.ref 73, .ref o] Q X := by
  have ho := hE.1
  have hn6 := tb_nw hE.2.2.1
  have loop : ∀ v, v ≤ T 7 3 → ∀ u, u.1 = w.1 → u.2.2 = w.2.2 → u.2.1 75 0 = 0 → (∀ x, x < v → u.2.1 74 x = lN (fbN T x 61)) → (∀ s, s < 2 ^ v → an T s (u.2.1 75 s)) → s_Ex (d + 3) 0 mX7_findFitting 2 [some (.ref 73), some (.ref o), some (.int (nI v)), none, none] [] u (s_V Q) X := by
    refine n_down ?_ ?_
    · intro u u1 u2 u3 u4 u5
      apply xX7_findFitting_2
      unfold vX7_findFitting_2
      have e14 : u.1 o 14 = nI (T 7 3) := by rw [u1]; exact hE.nw
      rw [e14]
      refine ⟨ia_0 ho, fun _ => ?_, fun z => absurd (nI_le (Nat.le_refl _) (by omega)) z⟩
      rw [s_Vn]
      exact h u u1 u2 u3 ⟨u4, u5⟩
    · intro v hv ih u u1 u2 u3 u4 u5
      have hp : 2 ^ v ≤ 2 ^ 5 := Nat.pow_le_pow_right (by decide) (by omega)
      have hp : 2 ^ v ≤ 32 := hp
      have inner : ∀ k, k ≤ 2 ^ v → ∀ u, u.1 = w.1 → u.2.2 = w.2.2 → u.2.1 75 0 = 0 → (∀ x, x < v + 1 → u.2.1 74 x = lN (fbN T x 61)) → (∀ s, s < 2 ^ v + k → an T s (u.2.1 75 s)) → s_Ex (d + 3) 0 mX7_findFitting 28 [some (.ref 73), some (.ref o), some (.int (nI v)), some (.int (nI (2 ^ v))), some (.int (nI (2 ^ v + k)))] [] u (s_V Q) X := by
        refine n_down ?_ ?_
        · intro u u1 u2 u3 u4 u5
          apply xX7_findFitting_28
          unfold vX7_findFitting_28
          have e2 : (2 : Int32) * nI (2 ^ v) = nI (2 * 2 ^ v) := by rw [show (2 : Int32) = nI 2 from rfl, pk_mul]
          rw [e2, nI_1]
          refine ⟨fun _ => ih u u1 u2 u3 u4 (fun s hs => u5 s (by rw [Nat.pow_succ] at hs; omega)), fun z => absurd (nI_le (by omega) (by omega)) z⟩
        · intro k hk ih2 u u1 u2 u3 u4 u5
          apply xX7_findFitting_28
          unfold vX7_findFitting_28
          have e2 : (2 : Int32) * nI (2 ^ v) = nI (2 * 2 ^ v) := by rw [show (2 : Int32) = nI 2 from rfl, pk_mul]
          have e3 : nI (2 ^ v + k) - nI (2 ^ v) = nI k := by rw [pk_sub (by omega)]; congr 1; omega
          have p0 : 0 < 2 ^ v := Nat.pow_pos (by omega)
          rw [e2, e3, nI_clamp (by omega), nI_clamp (by omega), nI_clamp (by omega), nI_1 (2 ^ v + k)]
          refine ⟨fun z => absurd z (nI_ge (by omega) (by omega)), fun _ => ⟨(vp_nI (by omega)).mpr (by omega), (vp_nI (by omega)).mpr (by omega), (vp_nI (by omega)).mpr (by omega), ?_⟩⟩
          intro w6 e6
          have g : ∀ i j, ¬ (i = 75 ∧ j = 2 ^ v + k) → w6.2.1 i j = u.2.1 i j := fun i j q => by rw [e6, rj_n q]
          refine ih2 w6 (by rw [e6]; exact u1) (by rw [e6]; exact u2) (by rw [g 75 0 (by omega)]; exact u3) (fun x hx => by rw [g 74 x (by omega)]; exact u4 x hx) (fun s hs => ?_)
          by_cases q : s = 2 ^ v + k
          · rw [q, e6, rj_s, u4 v (by omega)]
            exact an_2 (by omega) hk (u5 k (by omega))
          · rw [g 75 s (by omega)]
            exact u5 s (by omega)
      apply xX7_findFitting_2
      unfold vX7_findFitting_2
      have e14 : u.1 o 14 = nI (T 7 3) := by rw [u1]; exact hE.nw
      rw [e14]
      refine ⟨ia_0 ho, fun z => absurd z (nI_ge hv (by omega)), fun _ => ⟨ia_0 ho, K_fittingDusks (d := d) (hE.eq (fun i j _ => by rw [u1])) hv ?_⟩⟩
      rw [nI_clamp (by omega), sh_1 v (by omega)]
      refine ⟨(vp_nI (by omega)).mpr (by omega), ?_⟩
      intro w3 e3
      have g : ∀ i j, ¬ (i = 74 ∧ j = v) → w3.2.1 i j = u.2.1 i j := fun i j q => by rw [e3, rj_n q]
      refine inner 0 (Nat.zero_le _) w3 (by rw [e3]; exact u1) (by rw [e3]; exact u2) (by rw [g 75 0 (by omega)]; exact u3) (fun x hx => ?_) (fun s hs => by rw [g 75 s (by omega)]; exact u5 s (by omega))
      by_cases q : x = v
      · rw [q, e3, rj_s]
      · rw [g 74 x (by omega)]
        exact u4 x (by omega)
  apply eX7_findFitting
  unfold vX7_findFitting_0
  refine loop 0 (by omega) w rfl rfl h75 (fun x hx => absurd hx (by omega)) (fun s hs => ?_)
  have : s = 0 := by
    have : s < 1 := hs
    omega
  rw [this, h75]
  exact an_0 T
theorem pc_6 : ∀ s, s < 64 → pc s ≤ 6 := by decide +kernel
theorem pc_0 : pc 0 = 0 := by decide
theorem and_A {s A : Nat} (hA : A < 64) (h : s &&& A = s) : s < 64 := by
  have : s &&& A ≤ A := Nat.and_le_right
  omega
theorem lk_6 {T : Tb} {tk : Nat → Bool} {A : Nat} (hA : A < 64) (m : Nat) : lk T tk A m ≤ 6 := lk_le (fun s hs => by have := pc_6 s (and_A hA hs); omega) m
theorem cnf_61 (T : Tb) (tk : Nat → Bool) (s : Nat) : cnf T tk s ≤ 61 := by
  have := sm_le (f := fun e => if tk e = false ∧ anyf T s e 6 = true then 1 else 0) (b := 1) 61 (fun k _ => by
    show (if _ then 1 else 0) ≤ 1
    split <;> omega)
  exact this
theorem mx_i : ∀ l, l < 7 → ∀ a, a < 7 → ∀ b, b < 62 → (if nI l < nI a - nI b then nI a - nI b else nI l) = nI (max l (a - b)) := by decide +kernel
theorem sub_i : ∀ A, A < 64 → ∀ s, s < 64 → (decide ((nI s &&& (nI A ^^^ (-1))) = 0) == decide (s &&& A = s)) = true := by decide +kernel
theorem sub_I {A s : Nat} (hA : A < 64) (hs : s < 64) : (nI s &&& (nI A ^^^ (-1))) = 0 ↔ s &&& A = s := by
  have := sub_i A hA s hs
  rw [beq_iff_eq] at this
  constructor
  · intro h
    exact of_decide_eq_true (this ▸ decide_eq_true h)
  · intro h
    exact of_decide_eq_true (this.symm ▸ decide_eq_true h)
/-- which dusks are taken, as bits -/
def tkR (t : Nat) (tk : Nat → Bool) : Prop := t < 2 ^ 61 ∧ ∀ x, x < 61 → t.testBit x = tk x
theorem K_most {d A t : Nat} {T : Tb} {tk : Nat → Bool} {w : q_Sm} {Q : Int32 → q_Sm → Prop} {X : s_Xo} (ht : T 7 3 ≤ 6) (hF : mF T w) (hA : A < 2 ^ T 7 3) (hk : tkR t tk) (h : Q (nI (mm1 T tk A)) w) : s_EvI (d + 2) 0 mX7_mostMatched w [.ref 73, .int (nI A), .long (lN t)] Q X := by
  have hp : 2 ^ T 7 3 ≤ 2 ^ 6 := Nat.pow_le_pow_right (by decide) ht
  have hp : 2 ^ T 7 3 ≤ 64 := hp
  have loop : ∀ s, s ≤ A + 1 → 1 ≤ s → s_Ex (d + 2) 0 mX7_mostMatched 6 [some (.ref 73), some (.int (nI A)), some (.long (lN t)), none, some (.int (nI (lk T tk A s))), some (.int (nI s))] [] w (s_I Q) X := by
    refine n_down ?_ ?_
    · intro _
      apply xX7_mostMatched_6
      unfold vX7_mostMatched_6
      refine ⟨fun _ => K_bits (d := d) (by omega) ?_, fun z => absurd (nI_lt (by omega) (by omega)) z⟩
      rw [s_Ii]
      have : nI (pc A) - nI (lk T tk A (A + 1)) = nI (mm1 T tk A) := by
        have h1 : lk T tk A (A + 1) ≤ pc A := lk_le (fun s hs => by
          have h2 : pc s ≤ pc A := ct_mon (fun v _ q => sub_t hs q)
          omega) _
        rw [pk_sub h1]
        rfl
      rw [this]
      exact h
    · intro s hs ih h1
      have ih := ih (by omega)
      apply xX7_mostMatched_6
      unfold vX7_mostMatched_6
      rw [nI_clamp (by omega), nI_1]
      refine ⟨fun z => absurd ((nI_ltI (by omega) (by omega)).mp z) (by omega), fun _ => ⟨fun z => ?_, fun z => ?_⟩⟩
      · rw [sub_I (by omega) (by omega)] at z
        have e : lk T tk A (s + 1) = lk T tk A s := by
          show max (lk T tk A s) (if s &&& A = s then pc s - cnf T tk s else 0) = _
          rw [if_neg z]
          omega
        rw [e] at ih
        exact ih
      · have z := Decidable.not_not.mp z
        rw [sub_I (by omega) (by omega)] at z
        refine K_bits (d := d) (by omega) ⟨(vp_nI (by omega)).mpr (by omega), ?_⟩
        obtain ⟨c, ec, hc, hb⟩ := hF.2 s (by omega)
        rw [ec]
        obtain ⟨c', hc', e', hb'⟩ := mx_nd t hc
        rw [e']
        refine K_bitsL (d := d) (by have : (2 : Nat) ^ 61 < 2 ^ 62 := by decide
                                    omega) ?_
        have en : sm (fun e => if c'.testBit e = true then 1 else 0) 64 = cnf T tk s := by
          rw [sm_z (n := 61) 64 (by omega) (fun k h1 h2 => ?_)]
          · refine sm_c 61 (fun k hk' => ?_)
            show (if c'.testBit k = true then 1 else 0) = (if tk k = false ∧ anyf T s k 6 = true then 1 else 0)
            rw [hb' k (by omega), hb k, hk.2 k hk']
            have : decide (k < 61) = true := decide_eq_true hk'
            rw [this]
            cases tk k <;> cases anyf T s k 6 <;> rfl
          · show (if c'.testBit k = true then 1 else 0) = 0
            rw [hb' k h2, hb k]
            have : decide (k < 61) = false := decide_eq_false (by omega)
            rw [this]
            rfl
        rw [en]
        refine k_max (d := d) ?_
        rw [mx_i _ (by have := lk_6 (T := T) (tk := tk) (A := A) (by omega) s; omega) _ (by have := pc_6 s (by omega); omega) _ (by have := cnf_61 T tk s; omega)]
        have e : lk T tk A (s + 1) = max (lk T tk A s) (pc s - cnf T tk s) := by
          show max (lk T tk A s) (if s &&& A = s then pc s - cnf T tk s else 0) = _
          rw [if_pos z]
        rw [e] at ih
        exact ih
  apply eX7_mostMatched
  unfold vX7_mostMatched_0
  have e0 : lk T tk A 1 = 0 := by
    show max 0 (if 0 &&& A = 0 then pc 0 - cnf T tk 0 else 0) = 0
    rw [pc_0]
    simp
  have := loop 1 (by omega) (by omega)
  rw [e0] at this
  exact this
theorem mm1_6 {T : Tb} {tk : Nat → Bool} {A : Nat} (hA : A < 64) : mm1 T tk A ≤ 6 := by
  have := pc_6 A hA
  unfold mm1
  omega
theorem wa_i : ∀ M, M < 7 → ∀ k, k < 7 → ∀ m, m < 7 → (decide (nI m < nI M - nI k - 1) == decide (m < M - k - 1)) = true := by decide +kernel
theorem tkR_or {t e : Nat} {tk : Nat → Bool} (h : tkR t tk) (he : e < 61) : tkR (t ||| 2 ^ e) (fun x => tk x || x == e) := by
  refine ⟨bi_lt h.1 he, fun x hx => ?_⟩
  rw [Nat.testBit_or, h.2 x hx, Nat.testBit_two_pow]
  by_cases q : e = x
  · subst q; simp
  · have : x ≠ e := fun z => q z.symm
    simp [q, this]
theorem allw_lt {T : Tb} (v : Nat) : allw T v < 2 ^ T 7 3 := by
  have h1 : 0 < 2 ^ T 7 3 := Nat.pow_pos (by omega)
  have h2 : 0 < 2 ^ v := Nat.pow_pos (by omega)
  unfold allw
  omega
theorem K_firstDay {d v t M k : Nat} {T : Tb} {tk : Nat → Bool} {w : q_Sm} {Q : Int32 → q_Sm → Prop} {X : s_Xo} (ht : T 7 3 ≤ 6) (hF : mF T w) (hv : v < T 7 3) (hk : tkR t tk) (hM : M < 7) (hk7 : k < 7) (h : Q (oI (fday T v tk (M - k - 1) 61)) w) : s_EvI (d + 3) 0 mX7_firstDay w [.ref 73, .int (nI v), .int (nI (allw T (v + 1))), .long (lN t), .int (nI M - nI k - 1)] Q X := by
  have hp : 2 ^ T 7 3 ≤ 2 ^ 6 := Nat.pow_le_pow_right (by decide) ht
  have hp : 2 ^ T 7 3 ≤ 64 := hp
  have hal := allw_lt (T := T) (v + 1)
  have loop : ∀ f, f ≤ 61 → Q (oI (fday T v tk (M - k - 1) f)) w → s_Ex (d + 3) 0 mX7_firstDay 3 [some (.ref 73), some (.int (nI v)), some (.int (nI (allw T (v + 1)))), some (.long (lN t)), none, some (.int (nI M - nI k - 1)), some (.int (nI (61 - f))), none, none, none] [] w (s_I Q) X := by
    intro f
    induction f with
    | zero =>
      intro _ h
      apply xX7_firstDay_3
      unfold vX7_firstDay_3
      refine ⟨fun _ => ?_, fun z => absurd (show nI 60 < nI 61 from nI_lt (by omega) (by omega)) z⟩
      rw [s_Ii]
      exact h
    | succ f ih =>
      intro hf h
      have e61 : 61 - (f + 1) = 60 - f := by omega
      have en : nI (60 - f) + 1 = nI (61 - f) := by rw [nI_1]; congr 1; omega
      have h4 : (2 : Nat) ^ 61 < 2 ^ 64 := by decide
      have h63 : (2 : Nat) ^ 61 < 2 ^ 63 := by decide
      have hfl := fbN_lt (T := T) (v := v) 61 (by omega)
      obtain ⟨c, hc, ec, hb⟩ := mx_nd t hfl
      have hpe : 2 ^ (60 - f) < 2 ^ 61 := wb_lt2 (by omega)
      have ebit : (lN (fbN T v 61) &&& (lN t ^^^ (-1 : Int64))) &&& ((1 : Int64) <<< ((nI (60 - f)).toInt64 &&& 63)) = lN (c &&& 2 ^ (60 - f)) := by
        rw [ec, show (1 : Int64) = lN 1 from rfl, wb_shl 1 (by omega), Nat.one_mul, wb_and (by omega) (by omega)]
      have etk : lN t ||| ((1 : Int64) <<< ((nI (60 - f)).toInt64 &&& 63)) = lN (t ||| 2 ^ (60 - f)) := by
        rw [show (1 : Int64) = lN 1 from rfl, wb_shl 1 (by omega), Nat.one_mul, wb_or (by have := hk.1; omega) (by omega)]
      have hbe := hb (60 - f) (by omega)
      rw [fbN_t, hk.2 (60 - f) (by omega)] at hbe
      have hd : decide (60 - f < 61) = true := decide_eq_true (by omega)
      rw [hd, Bool.true_and] at hbe
      apply xX7_firstDay_3
      unfold vX7_firstDay_3
      rw [e61, nI_clamp (by omega), hF.1 v hv, ebit, etk, en]
      refine ⟨fun z => absurd ((nI_ltI (a := 60) (by omega) (by omega)).mp z) (by omega), fun _ => ⟨(vp_nI (by omega)).mpr (by omega), fun z => ?_, fun z => ?_⟩⟩
      · have z : lN (c &&& 2 ^ (60 - f)) = lN 0 := (lg_cmp_eq _ _).mp z
        have z := (pk_lEQ (by have := Nat.and_lt_two_pow c hpe; omega) (by omega)).mp z
        have hz : c.testBit (60 - f) = false := by
          cases q : c.testBit (60 - f) with
          | false => rfl
          | true =>
            have : (c &&& 2 ^ (60 - f)).testBit (60 - f) = true := by
              rw [Nat.testBit_and, q, Nat.testBit_two_pow]
              simp
            rw [z] at this
            simp at this
        rw [hz] at hbe
        refine ⟨fun _ => ih (by omega) ?_, fun z => absurd rfl z⟩
        unfold fday at h
        rw [if_neg (fun q => by rw [q.1, q.2.1] at hbe; simp at hbe)] at h
        exact h
      · have hz : c.testBit (60 - f) = true := by
          cases q : c.testBit (60 - f) with
          | true => rfl
          | false =>
            refine absurd ((lg_cmp_eq _ _).mpr ?_) z
            show lN (c &&& 2 ^ (60 - f)) = lN 0
            congr 1
            apply Nat.eq_of_testBit_eq
            intro i
            rw [Nat.testBit_and, Nat.testBit_two_pow, Nat.zero_testBit]
            by_cases y : 60 - f = i
            · rw [← y, q]; rfl
            · simp [y]
        rw [hz] at hbe
        have hbe := hbe.symm
        rw [Bool.and_eq_true] at hbe
        have ht0 : tk (60 - f) = false := by simpa using hbe.2
        refine ⟨fun z => absurd z (by decide), fun _ => K_most (d := d) ht hF (A := allw T (v + 1)) hal (tkR_or hk (e := 60 - f) (by omega)) ?_⟩
        have hm6 := mm1_6 (T := T) (tk := fun x => tk x || x == 60 - f) (A := allw T (v + 1)) (by omega)
        have hw := wa_i M hM k hk7 (mm1 T (fun x => tk x || x == 60 - f) (allw T (v + 1))) (by omega)
        rw [beq_iff_eq] at hw
        refine ⟨fun z2 => ih (by omega) ?_, fun z2 => ?_⟩
        · have z3 := of_decide_eq_true (hw ▸ decide_eq_true z2)
          unfold fday at h
          rw [if_neg (fun q => by have := q.2.2; omega)] at h
          exact h
        · have z3 : ¬ (mm1 T (fun x => tk x || x == 60 - f) (allw T (v + 1)) < M - k - 1) := fun q => z2 (of_decide_eq_true (hw.symm ▸ decide_eq_true q))
          rw [s_Ii]
          unfold fday at h
          rw [if_pos ⟨hbe.1, ht0, by omega⟩] at h
          exact h
  apply eX7_firstDay
  unfold vX7_firstDay_0
  exact loop 61 (by omega) h
theorem fday_60 {T : Tb} {v wa e : Nat} {tk : Nat → Bool} : ∀ k, fday T v tk wa k = some e → e ≤ 60 := by
  intro k
  induction k with
  | zero => intro h; simp [fday] at h
  | succ k ih =>
    intro h
    unfold fday at h
    split at h
    · simp at h
      omega
    · exact ih h
theorem ww_le (T : Tb) : ∀ v, (ww T v).2.1 ≤ v := by
  intro v
  induction v with
  | zero => exact Nat.le_refl 0
  | succ v ih =>
    rw [ww_2]
    split <;> omega
theorem la_i : ∀ n, n < 7 → ∀ v, v < n → nI (2 ^ n - 2 ^ v) &&& (nI (2 ^ v) ^^^ (-1)) = nI (2 ^ n - 2 ^ (v + 1)) := by decide +kernel
theorem la_0 : ∀ n, n < 7 → nI (2 ^ n) - 1 = nI (2 ^ n - 2 ^ 0) := by decide +kernel
theorem K_match {d o l n : Nat} {T : Tb} {β C : Nat → Nat} {w : q_Sm} {Q : q_Sm → Prop} {X : s_Xo} (hE : KE o l T β C n w) (h75 : w.2.1 75 0 = 0) (h : ∀ u, u.2.2 = w.2.2 → u.2.1 75 0 = 0 → (∀ i j, i ≠ 76 → ¬ (i = 73 ∧ j = 3) → u.1 i j = w.1 i j) → mt T u → Q u) : s_EvV (d + 4) 0 mX7_match w [.ref 73, .ref o] Q X := by
  have ho := hE.1
  have hn6 := tb_nw hE.2.2.1
  have hp : 2 ^ T 7 3 ≤ 2 ^ 6 := Nat.pow_le_pow_right (by decide) hn6
  have hp : 2 ^ T 7 3 ≤ 64 := hp
  have hmm := mm_le hE.2.2.1
  apply eX7_match
  unfold vX7_match_0
  refine K_findFitting (d := d) hE h75 (fun u u1 u2 u3 hF => ⟨ia_0 ho, ?_⟩)
  have e14 : u.1 o 14 = nI (T 7 3) := by rw [u1]; exact hE.nw
  rw [e14, sh_1 _ (by omega), la_0 _ (by omega)]
  refine K_most (d := d + 1) (t := 0) (tk := fun _ => false) hn6 hF (allw_lt 0) ⟨by decide, fun x _ => by simp⟩ ?_
  intro w5 e5
  have hF5 : mF T w5 := by rw [e5]; exact hF
  have g5 : ∀ i j, ¬ (i = 73 ∧ j = 3) → w5.1 i j = w.1 i j := fun i j q => by rw [e5, rd_ne q, u1]
  have c5 : w5.1 73 3 = nI (mm T) := by rw [e5, rd_s]; rfl
  have i5 : w5.2 = u.2 := by rw [e5]; rfl
  have loop : ∀ v, v ≤ T 7 3 → ∀ t z, z.2 = w5.2 → (∀ i j, i ≠ 76 → z.1 i j = w5.1 i j) → tkR t (ww T v).1 → (∀ x, x < v → z.1 76 x = oI (wd T x)) → s_Ex (d + 4) 0 mX7_match 32 [some (.ref 73), some (.ref o), some (.int (nI (allw T v))), some (.long (lN t)), none, some (.int (nI (ww T v).2.1)), some (.int (nI v))] [] z (s_V Q) X := by
    refine n_down ?_ ?_
    · intro t z z2 z1 hk hd
      apply xX7_match_32
      unfold vX7_match_32
      have f14 : z.1 o 14 = nI (T 7 3) := by rw [z1 _ _ (by omega), g5 _ _ (by omega)]; exact hE.nw
      rw [f14]
      refine ⟨ia_0 ho, fun _ => ?_, fun q => absurd (nI_le (Nat.le_refl _) (by omega)) q⟩
      rw [s_Vn]
      refine h z (by rw [z2, i5]; exact u2) (by rw [z2, i5]; exact u3) (fun i j q1 q2 => by rw [z1 i j q1, g5 i j q2]) ⟨by rw [z1 73 3 (by omega)]; exact c5, hd⟩
    · intro v hv ih t z z2 z1 hk hd
      apply xX7_match_32
      unfold vX7_match_32
      have f14 : z.1 o 14 = nI (T 7 3) := by rw [z1 _ _ (by omega), g5 _ _ (by omega)]; exact hE.nw
      have f73 : z.1 73 3 = nI (mm T) := by rw [z1 73 3 (by omega)]; exact c5
      have hwl := ww_le T v
      have el : nI (allw T v) &&& (((1 : Int32) <<< (nI v &&& 31)) ^^^ (-1)) = nI (allw T (v + 1)) := by
        rw [sh_1 v (by omega)]
        exact la_i _ (by omega) v hv
      have hFz : mF T z := by unfold mF; rw [z2]; exact hF5
      rw [f14, f73, el]
      refine ⟨ia_0 ho, fun q => absurd q (nI_ge hv (by omega)), fun _ => K_firstDay (d := d) hn6 hFz hv hk (by omega) (by omega) ?_⟩
      rw [← wd_eq, nI_clamp (by omega), nI_1, nI_1]
      refine ⟨(vp_nI (by omega)).mpr (by omega), ?_⟩
      intro w9 e9
      have c9 : w9.1 76 v = oI (wd T v) := by rw [e9, rd_s]
      have g9 : ∀ i j, ¬ (i = 76 ∧ j = v) → w9.1 i j = z.1 i j := fun i j q => by rw [e9, rd_ne q]
      have i9 : w9.2 = w5.2 := by rw [e9]; exact z2
      have hd9 : ∀ x, x < v + 1 → w9.1 76 x = oI (wd T x) := by
        intro x hx
        by_cases q : x = v
        · rw [q]; exact c9
        · rw [g9 76 x (by omega)]; exact hd x (by omega)
      rw [c9]
      refine ⟨(vp_nI (by omega)).mpr (by omega), fun q => ?_, fun q => ?_⟩
      · have hno : wd T v = none := oI_m q (fun e he => by
          rw [wd_eq] at he
          have := fday_60 _ he
          omega)
        have e1 := ww_1 T v
        have e2 := ww_2 T v
        rw [hno] at e1 e2
        have := ih t w9 i9 (fun i j y => by rw [g9 i j (by omega)]; exact z1 i j y) (by rw [e1]; exact hk) hd9
        rw [e2] at this
        exact this
      · cases hso : wd T v with
        | none => rw [hso] at q; exact absurd rfl q
        | some e =>
          have he : e ≤ 60 := by
            rw [wd_eq] at hso
            exact fday_60 _ hso
          have e1 := ww_1 T v
          have e2 := ww_2 T v
          rw [hso] at e1 e2
          have h4 : (2 : Nat) ^ 61 < 2 ^ 64 := by decide
          have hpe : 2 ^ e < 2 ^ 61 := wb_lt2 (by omega)
          have etk : lN t ||| ((1 : Int64) <<< ((nI e).toInt64 &&& 63)) = lN (t ||| 2 ^ e) := by
            rw [show (1 : Int64) = lN 1 from rfl, wb_shl 1 (by omega), Nat.one_mul, wb_or (by have := hk.1; omega) (by omega)]
          refine ⟨(vp_nI (by omega)).mpr (by omega), ?_⟩
          rw [oI_s, etk]
          have := ih (t ||| 2 ^ e) w9 i9 (fun i j y => by rw [g9 i j (by omega)]; exact z1 i j y) (by rw [e1]; exact tkR_or hk (by omega)) hd9
          rw [e2] at this
          exact this
  have := loop 0 (by omega) 0 w5 rfl (fun i j _ => rfl) ⟨by decide, fun x _ => by simp [ww]⟩ (fun x hx => absurd hx (by omega))
  exact this
