/-! the reference's weddings -/
theorem tF_some {W : Nat → Option Nat} {e v : Nat} : ∀ f, v < f → W v = some e → (tF W f e).isSome = true := by
  intro f
  induction f with
  | zero => intro h; omega
  | succ f ih =>
    intro h hv
    unfold tF
    by_cases q : v = f
    · subst q
      rw [hv]
      show (upt (tF W v) e v e).isSome = true
      rw [upt_s]
      rfl
    · cases z : W f with
      | none => exact ih (by omega) hv
      | some i =>
        show (upt (tF W f) i f e).isSome = true
        by_cases q2 : e = i
        · rw [q2, upt_s]; rfl
        · rw [upt_n q2]; exact ih (by omega) hv
theorem ct_lt {f : Nat} (hf : f ≤ 6) : ct (fun v => decide (v < f)) 6 = f := by
  have : ∀ f, f < 7 → ct (fun v => decide (v < f)) 6 = f := by decide
  exact this f (by omega)
theorem ct_6 {p : Nat → Bool} {f : Nat} (hf : f ≤ 6) : ct (fun v => decide (v < f) && p v) 6 = ct p f := by
  unfold ct
  rw [sm_z (n := f) 6 hf (fun k h1 h2 => by
    have : decide (k < f) = false := by simp; omega
    show (if (decide (k < f) && p k) = true then 1 else 0) = 0
    rw [this]; rfl)]
  refine sm_c _ (fun k hk => ?_)
  have : decide (k < f) = true := by simp; omega
  show (if (decide (k < f) && p k) = true then 1 else 0) = _
  rw [this]
  rfl
theorem mm_ge {T : Tb} {f : Nat} {W : Nat → Option Nat} (ht : tb T) (hf : f ≤ T 7 3) (hdis : ∀ v v' e, v < f → v' < f → W v = some e → W v' = some e → v = v') (hfit : ∀ v e, v < f → W v = some e → fit T v e = true) : ct (fun v => (W v).isSome) f + mm1 T (fun e => (tF W f e).isSome) (allw T f) ≤ mm T := by
  have hnw := tb_nw ht
  have hb : lk T (fun e => (tF W f e).isSome) (allw T f) (allw T f + 1) ≤ T 7 3 - f := by
    refine lk_le (fun s hs => ?_) _
    have h1 : pc s ≤ pc (allw T f) := ct_mon (fun v _ hv => sub_t hs hv)
    unfold allw at h1
    rw [aw_pc hnw hf] at h1
    omega
  have hh : ct (fun v => decide (v < f) && !(W v).isSome) 6 + ct (fun v => (W v).isSome) f ≤ f := by
    rw [← ct_6 (p := fun v => (W v).isSome) (by omega)]
    have := ct_dis (p := fun v => decide (v < f)) (q := fun v => decide (v < f) && !(W v).isSome) (r := fun v => decide (v < f) && (W v).isSome) (n := 6) (fun v _ h => by simp at h; simp; exact h.1) (fun v _ h => by simp at h; simp; exact h.1) (fun v _ h1 h2 => by
      simp at h1 h2
      rw [h1.2] at h2
      simp at h2)
    rw [ct_lt (by omega)] at this
    exact this
  have h0 : lk T (fun _ => false) (allw T 0) (allw T 0 + 1) ≤ (f - ct (fun v => (W v).isSome) f) + lk T (fun e => (tF W f e).isSome) (allw T f) (allw T f + 1) := by
    refine lk_le (fun s hs => ?_) _
    have hsn : ∀ v, s.testBit v = true → v < T 7 3 := by
      intro v hv
      have := sub_t hs hv
      unfold allw at this
      rw [aw_t hnw (by omega)] at this
      exact (of_decide_eq_true this).2
    have hS2 : s &&& allw T f &&& allw T f = s &&& allw T f := by rw [Nat.and_assoc, Nat.and_self]
    have hS2t : ∀ v, (s &&& allw T f).testBit v = (s.testBit v && decide (f ≤ v ∧ v < T 7 3)) := by
      intro v
      rw [Nat.testBit_and]
      unfold allw
      rw [aw_t hnw hf]
    have g := lk_ge (T := T) (tk := fun e => (tF W f e).isSome) hS2 (allw T f + 1) (by have := Nat.and_le_right (n := s) (m := allw T f); omega)
    generalize s &&& allw T f = S2 at hS2t g
    rw [pc_ct, cnf_ct] at g ⊢
    have a1 : ct (fun v => s.testBit v) 6 ≤ ct (fun v => decide (v < f) && !(W v).isSome) 6 + ct (fun v => (s.testBit v && decide (v < f) && (W v).isSome) || S2.testBit v) 6 := by
      refine ct_add (fun v _ hv => ?_)
      have hn := hsn v hv
      have hv : s.testBit v = true := hv
      by_cases q : v < f
      · cases z : (W v).isSome with
        | false => left; simp [q]
        | true => right; simp [hv, q]
      · right
        rw [hS2t]
        simp [hv]
        omega
    have a2 : ct (fun v => (s.testBit v && decide (v < f) && (W v).isSome) || S2.testBit v) 6 ≤ ct (fun v => s.testBit v && decide (v < f) && (W v).isSome) 6 + ct (fun v => S2.testBit v) 6 := by
      refine ct_add (fun v _ hv => ?_)
      rw [Bool.or_eq_true] at hv
      exact hv
    have a3 : ct (fun v => s.testBit v && decide (v < f) && (W v).isSome) 6 ≤ ct (fun e => (tF W f e).isSome && anyf T s e 6) 61 := by
      refine cnt_le (M := fun v e => v < f ∧ W v = some e) (fun v hv hp => ?_) (fun e v v' h1 h2 => hdis v v' e h1.1 h2.1 h1.2 h2.2)
      rw [Bool.and_eq_true, Bool.and_eq_true] at hp
      obtain ⟨⟨h1, h2⟩, h3⟩ := hp
      have h2 := of_decide_eq_true h2
      obtain ⟨e, h4⟩ := Option.isSome_iff_exists.mp h3
      have hF := hfit v e h2 h4
      refine ⟨e, fit_le ht (hsn v h1) hF, ?_, h2, h4⟩
      rw [Bool.and_eq_true]
      exact ⟨tF_some f h2 h4, (anyf_iff 6).mpr ⟨v, hv, h1, hF⟩⟩
    have a4 : ct (cnp T (fun e => (tF W f e).isSome) S2) 61 ≤ ct (cnp T (fun e => (tF W f e).isSome) s) 61 := by
      refine ct_mon (fun e _ h => ?_)
      obtain ⟨h1, v, h2, h3, h4⟩ := cnp_iff.mp h
      refine cnp_iff.mpr ⟨h1, v, h2, ?_, h4⟩
      rw [hS2t, Bool.and_eq_true] at h3
      exact h3.1
    have a5 : ct (fun e => (tF W f e).isSome && anyf T s e 6) 61 + ct (cnp T (fun e => (tF W f e).isSome) s) 61 ≤ ct (cnp T (fun _ => false) s) 61 := by
      refine ct_dis (fun e _ h => ?_) (fun e _ h => ?_) (fun e _ h1 h2 => ?_)
      · rw [Bool.and_eq_true] at h
        exact cnp_iff.mpr ⟨rfl, (anyf_iff 6).mp h.2⟩
      · exact cnp_iff.mpr ⟨rfl, (cnp_iff.mp h).2⟩
      · rw [Bool.and_eq_true] at h1
        have := (cnp_iff.mp h2).1
        have this : (tF W f e).isSome = false := this
        rw [h1.1] at this
        exact absurd this (by decide)
    omega
  have e0 : pc (allw T 0) = T 7 3 := by
    unfold allw
    rw [aw_pc hnw (by omega)]
    omega
  have ef : pc (allw T f) = T 7 3 - f := by
    unfold allw
    rw [aw_pc hnw hf]
  unfold mm mm1
  rw [e0, ef]
  omega
theorem wd_eq (T : Tb) (v : Nat) : wd T v = fday T v (ww T v).1 (mm T - (ww T v).2.1 - 1) 61 := by
  unfold wd
  rw [ww]
  split
  · rename_i h; rw [h]
  · rename_i h; rw [h]
theorem ww_1 (T : Tb) (v : Nat) : (ww T (v + 1)).1 = match wd T v with
    | none => (ww T v).1
    | some e => fun x => (ww T v).1 x || x == e := by
  rw [wd_eq, ww]
  split
  · rename_i h; rw [h]
  · rename_i h; rw [h]
theorem ww_2 (T : Tb) (v : Nat) : (ww T (v + 1)).2.1 = (ww T v).2.1 + (if (wd T v).isSome = true then 1 else 0) := by
  rw [wd_eq, ww]
  split
  · rename_i h; rw [h]; rfl
  · rename_i h; rw [h]; rfl
theorem tF_ww (T : Tb) : ∀ x, (fun y => (tF (wd T) x y).isSome) = (ww T x).1 := by
  intro x
  induction x with
  | zero => rfl
  | succ x ih =>
    rw [ww_1, ← ih]
    funext y
    rw [tF]
    cases q : wd T x with
    | none => rfl
    | some e =>
      show (upt (tF (wd T) x) e x y).isSome = ((tF (wd T) x y).isSome || y == e)
      by_cases q2 : y = e
      · rw [q2, upt_s]; simp
      · rw [upt_n q2]; simp [q2]
theorem ww_h (T : Tb) : ∀ x, (ww T x).2.1 = ct (fun v => (wd T v).isSome) x := by
  intro x
  induction x with
  | zero => rfl
  | succ x ih => rw [ww_2, ih]; rfl
theorem fday_s {T : Tb} {v wa e : Nat} {tk : Nat → Bool} : ∀ k, fday T v tk wa k = some e → fit T v e = true ∧ tk e = false := by
  intro k
  induction k with
  | zero => intro h; simp [fday] at h
  | succ k ih =>
    intro h
    unfold fday at h
    split at h
    · rename_i q
      simp at h
      subst h
      exact ⟨q.1, q.2.1⟩
    · exact ih h
theorem wd_fit {T : Tb} {v e : Nat} (h : wd T v = some e) : fit T v e = true ∧ (ww T v).1 e = false := by
  rw [wd_eq] at h
  exact fday_s 61 h
theorem ww_t {T : Tb} {x e v : Nat} (h : v < x) (hv : wd T v = some e) : (ww T x).1 e = true := by
  rw [← tF_ww]
  exact tF_some x h hv
theorem tF_in {W : Nat → Option Nat} {e : Nat} : ∀ f, (tF W f e).isSome = true → ∃ v, v < f ∧ W v = some e := by
  intro f
  induction f with
  | zero => intro h; simp [tF] at h
  | succ f ih =>
    intro h
    rw [tF] at h
    cases z : W f with
    | none =>
      rw [z] at h
      obtain ⟨v, h1, h2⟩ := ih h
      exact ⟨v, by omega, h2⟩
    | some i =>
      rw [z] at h
      have h : (upt (tF W f) i f e).isSome = true := h
      by_cases q : e = i
      · exact ⟨f, by omega, by rw [z, q]⟩
      · rw [upt_n q] at h
        obtain ⟨v, h1, h2⟩ := ih h
        exact ⟨v, by omega, h2⟩
theorem wd_ne {T : Tb} {v v' e : Nat} (h : v < v') (h1 : wd T v = some e) (h2 : wd T v' = some e) : False := by
  have a := ww_t h h1
  rw [(wd_fit h2).2] at a
  exact absurd a (by decide)
theorem R_isTaken {d e x : Nat} {T : Tb} {w : q_Sm} {Q : Int32 → q_Sm → Prop} {X : s_Xo} (hx : x ≤ 6) (he : e < 61) (hb : ∀ v, v < x → ∀ e, wd T v = some e → e < 61) (hw : ∀ v, v < x → w.1 110 v = oI (wd T v)) (h : Q (nI (if (ww T x).1 e = true then 1 else 0)) w) : s_EvI (d + 1) 0 mX12_isTaken w [.ref 79, .int (nI e), .int (nI x)] Q X := by
  have loop : ∀ j i, i + j = x → (∀ v, v < i → wd T v ≠ some e) → s_Ex (d + 1) 0 mX12_isTaken 2 [some (.ref 79), some (.int (nI e)), some (.int (nI x)), some (.int (nI i))] [] w (s_I Q) X := by
    intro j
    induction j with
    | zero =>
      intro i hi hno
      have hi : i = x := by omega
      subst hi
      apply xX12_isTaken_2
      unfold vX12_isTaken_2
      rw [nI_leI (by omega) (by omega)]
      refine ⟨fun _ => ?_, fun z => absurd (by omega) z⟩
      rw [s_Ii]
      rw [if_neg] at h
      · exact h
      · intro z
        rw [← tF_ww] at z
        obtain ⟨v, h1, h2⟩ := tF_in i z
        exact hno v h1 h2
    | succ j ih =>
      intro i hi hno
      have ec : Int32.toNatClampNeg (nI i) = i := nI_clamp (by omega)
      have hin : vp_in (nI i) 6 := (vp_nI (by omega)).mpr (by omega)
      apply xX12_isTaken_2
      unfold vX12_isTaken_2
      simp only [ec, nI_1 i, hw i (by omega)]
      rw [nI_leI (by omega) (by omega)]
      refine ⟨fun z => absurd z (by omega), fun _ => ⟨hin, fun z => ?_, fun z => ?_⟩⟩
      · refine ih (i + 1) (by omega) (fun v hv => ?_)
        by_cases q : v = i
        · intro z2
          rw [← q, z2] at z
          exact z rfl
        · exact hno v (by omega)
      · have z := Classical.not_not.mp z
        have hwi : wd T i = some e := by
          cases q : wd T i with
          | none =>
            rw [q] at z
            exact ((oI_n (show e < 2 ^ 31 by omega)).mp z.symm).elim
          | some e2 =>
            rw [q, oI_s, nI_eq (by have := hb i (by omega) e2 q; omega) (by omega)] at z
            rw [z]
        rw [s_Ii]
        rw [if_pos (ww_t (by omega) hwi)] at h
        exact h
  apply eX12_isTaken
  unfold vX12_isTaken_0
  exact loop x 0 (by omega) (fun v hv => absurd hv (by omega))
def aW3 (i _j : Nat) : Bool := i == 110 || i == 112 || i == 113
theorem aW3_lo (i j : Nat) (h : i < 100) : aW3 i j = false := by simp [aW3]; omega
theorem aKu_W {w u : q_Sm} (h : fr aKu w u) : fr aW3 w u := h.mono (fun i j q => by simp [aKu] at q; simp [aW3]; omega)
def Wx (T : Tb) (x e : Nat) : Nat → Option Nat := fun v => if v = x then some e else wd T v
theorem Wx_s {T : Tb} {x e : Nat} : Wx T x e x = some e := by simp [Wx]
theorem Wx_n {T : Tb} {x e v : Nat} (h : v ≠ x) : Wx T x e v = wd T v := by simp [Wx, h]
theorem Wx_tF {T : Tb} {x e : Nat} : (fun y => (tF (Wx T x e) (x + 1) y).isSome) = fun y => (ww T x).1 y || y == e := by
  funext y
  rw [tF, Wx_s]
  show (upt (tF (Wx T x e) x) e x y).isSome = _
  rw [tF_c (W' := wd T) x (fun v hv => Wx_n (by omega)), ← tF_ww]
  by_cases q : y = e
  · rw [q, upt_s]; simp
  · rw [upt_n q]; simp [q]
theorem Wx_ct {T : Tb} {x e : Nat} : ct (fun v => (Wx T x e v).isSome) (x + 1) = (ww T x).2.1 + 1 := by
  rw [ww_h]
  show ct (fun v => (Wx T x e v).isSome) x + (if (Wx T x e x).isSome = true then 1 else 0) = _
  rw [Wx_s]
  have : ct (fun v => (Wx T x e v).isSome) x = ct (fun v => (wd T v).isSome) x := by
    unfold ct
    refine sm_c _ (fun v hv => ?_)
    show (if (Wx T x e v).isSome = true then 1 else 0) = _
    rw [Wx_n (by omega)]
  rw [this]
  rfl
theorem mm_le {T : Tb} (ht : tb T) : mm T ≤ 6 := by
  have hnw := tb_nw ht
  unfold mm mm1 allw
  rw [aw_pc hnw (by omega)]
  omega
theorem R_findWeddings {d n : Nat} {T : Tb} {C : Nat → Nat} {w : q_Sm} {Q : Int32 → q_Sm → Prop} {X : s_Xo} (hE0 : RE T C n w) (h : ∀ u, fr aW3 w u → (∀ v, v < T 7 3 → u.1 110 v = oI (wd T v)) → Q (nI (mm T)) u) : s_EvI (d + 71) 0 mX12_findWeddings w [.ref 79] Q X := by
  have ht := hE0.1
  have hnw := tb_nw ht
  have hmm := mm_le ht
  have hb : ∀ v, v < T 7 3 → ∀ e, wd T v = some e → e < 61 := fun v hv e he => fit_le ht hv (wd_fit he).1
  have loop : ∀ j x, x + j = T 7 3 → ∀ u, fr aW3 w u → (∀ v, v < x → u.1 110 v = oI (wd T v)) → s_Ex (d + 71) 0 mX12_findWeddings 8 [some (.ref 79), some (.int (nI (mm T))), some (.int (nI x)), none, none] [] u (s_I Q) X := by
    intro j
    induction j with
    | zero =>
      intro x hx u fu hu
      have hx : x = T 7 3 := by omega
      subst hx
      have hE := hE0.f fu aW3_lo
      apply xX12_findWeddings_8
      unfold vX12_findWeddings_8
      rw [hE.nw, nI_leI (by omega) (by omega)]
      refine ⟨fun _ => ?_, fun z => absurd (by omega) z⟩
      rw [s_Ii]
      exact h u fu hu
    | succ j ih =>
      intro x hx u fu hu
      have hE := hE0.f fu aW3_lo
      have ecx : Int32.toNatClampNeg (nI x) = x := nI_clamp (by omega)
      have hin : vp_in (nI x) 6 := (vp_nI (by omega)).mpr (by omega)
      -- its found or not found at the end
      have done : ∀ u, fr aW3 w u → (∀ v, v < x → u.1 110 v = oI (wd T v)) → ∀ w3 : q_Sm, w3 = q_wI u 110 x (oI (wd T x)) → s_Ex (d + 71) 0 mX12_findWeddings 8 [some (.ref 79), some (.int (nI (mm T))), some (.int (nI (x + 1))), none, none] [] w3 (s_I Q) X := by
        rintro u fu hu _ rfl
        refine ih (x + 1) (by omega) _ (fu.put rfl) (fun v hv => ?_)
        by_cases q : v = x
        · rw [q, rd_s]
        · rw [rd_j q]; exact hu v (by omega)
      have lp : ∀ r e, e + r = 61 → ∀ u, fr aW3 w u → (∀ v, v < x → u.1 110 v = oI (wd T v)) → wd T x = fday T x (ww T x).1 (mm T - (ww T x).2.1 - 1) r → s_Ex (d + 71) 0 mX12_findWeddings 21 [some (.ref 79), some (.int (nI (mm T))), some (.int (nI x)), some (.int (-1)), some (.int (nI e))] [] u (s_I Q) X := by
        intro r
        induction r with
        | zero =>
          intro e he u fu hu hwd
          have he : e = 61 := by omega
          subst he
          have dn := done u fu hu
          rw [show oI (wd T x) = -1 by rw [hwd]; rfl] at dn
          apply xX12_findWeddings_21
          unfold vX12_findWeddings_21
          simp only [ecx, nI_1 x]
          exact ⟨fun _ => ⟨hin, dn⟩, fun z => absurd (by decide) z⟩
        | succ r ihr =>
          intro e he u fu hu hwd
          have hE := hE0.f fu aW3_lo
          have h60 : ¬ ((60 : Int32) < nI e) := by
            try simp (disch := omega) only [s_Ii, s_Jj, s_Vn, forall_eq, L_m1, nI_add, nI_clamp, nI_leI, nI_ltI, nI_eq, vp_nI, pk_mul, pk_sub, Nat.zero_add, Nat.add_zero, wr_2, Classical.not_not, true_and, and_true, ne_eq, false_implies, true_implies, implies_true, not_true_eq_false, not_false_eq_true, ia_0, ia_1, za_1, ia_2, za_2, ia_3, za_3, ia_4, za_4, ia_5, za_5, ia_6, za_6, ia_7, za_7, ia_8, za_8, ia_9, za_9, ia_10, za_10, ia_11, za_11, ia_12, za_12, ia_13, za_13, ia_14, za_14, ia_15, za_15, ib_0, ib_1, zb_1, ic_0, ic_1, ic_2, ic_3, zc_1, zc_2, zc_3, id_0, id_1, id_2, id_3, zd_1, zd_2, zd_3, L_0, L_1, L_2, L_3, L_4, L_5, L_6, L_7, L_8, L_9, L_10, L_11, L_12, L_13, L_14, L_15, L_16, L_17, L_18, L_19, L_20, L_24, L_27, L_30, L_31, L_32, L_35, L_36, L_40, L_41, L_43, L_44, L_45, L_46, L_47, L_48, L_50, L_54, L_57, L_58, L_59, L_60, L_61, L_62, L_63, L_91, L_93, L_96, L_97, L_98, L_99, L_100, L_103, L_122, L_145, L_150, L_200, L_255, L_600, L_999, L_1000, L_2000, L_9999, L_10000, L_32767, L_12345, oI_s, oI_n, L_mn, if_true, if_false, ite_true, ite_false, Bool.false_eq_true, Nat.reduceEqDiff, Nat.reduceLeDiff, Nat.reduceLT, Nat.reduceAdd, Nat.reduceSub, Nat.reduceMul, Nat.le_refl, Nat.lt_irrefl, Nat.not_lt_zero]
            omega
          have he60 : 60 - r = e := by omega
          unfold fday at hwd
          rw [he60] at hwd
          apply xX12_findWeddings_21
          unfold vX12_findWeddings_21
          simp only [ecx, nI_1 x, nI_1 e]
          refine ⟨fun z => absurd z h60, fun _ => ⟨fun z => absurd trivial z, fun _ => R_canWed (d := d + 68) hE (by omega) (by omega) ?_⟩⟩
          cases ef : fit T x e with
          | false =>
            refine ⟨fun _ => ihr (e + 1) (by omega) u fu hu ?_, fun z => absurd rfl z⟩
            rw [if_neg (by rw [ef]; simp)] at hwd
            exact hwd
          | true =>
            refine ⟨fun z => absurd z (by decide), fun _ => R_isTaken (d := d + 69) (by omega) (by omega) (fun v hv => hb v (by omega)) hu ?_⟩
            cases et : (ww T x).1 e with
            | true =>
              refine ⟨fun z => absurd z (by decide), fun _ => ihr (e + 1) (by omega) u fu hu ?_⟩
              rw [if_neg (by rw [et]; simp)] at hwd
              exact hwd
            | false =>
              refine ⟨fun _ => ⟨hin, ?_⟩, fun z => absurd rfl z⟩
              intro w3 e3
              have fr3 : fr aW3 w w3 := by rw [e3]; exact fu.put rfl
              have m3 : ∀ v, v < x + 1 → w3.1 110 v = oI (Wx T x e v) := by
                intro v hv
                by_cases q : v = x
                · rw [q, e3, rd_s, Wx_s]; rfl
                · rw [e3, rd_j q, Wx_n q]; exact hu v (by omega)
              have hE3 := hE0.f fr3 aW3_lo
              clear e3
              have hge := mm_ge (T := T) (f := x + 1) (W := Wx T x e) ht (by omega) (by
                intro v v' i h1 h2 h3 h4
                by_cases q : v = x
                · by_cases q' : v' = x
                  · omega
                  · rw [q, Wx_s] at h3
                    simp at h3
                    subst h3
                    rw [Wx_n q'] at h4
                    rw [ww_t (by omega) h4] at et
                    exact absurd et (by decide)
                · by_cases q' : v' = x
                  · rw [q', Wx_s] at h4
                    simp at h4
                    subst h4
                    rw [Wx_n q] at h3
                    rw [ww_t (by omega) h3] at et
                    exact absurd et (by decide)
                  · rw [Wx_n q] at h3
                    rw [Wx_n q'] at h4
                    rcases Nat.lt_trichotomy v v' with z | z | z
                    · exact (wd_ne z h3 h4).elim
                    · exact z
                    · exact (wd_ne z h4 h3).elim) (by
                intro v i h1 h2
                by_cases q : v = x
                · rw [q, Wx_s] at h2
                  simp at h2
                  rw [q, ← h2]
                  exact ef
                · rw [Wx_n q] at h2
                  exact (wd_fit h2).1)
              refine R_mostWith (d := d) (f := x + 1) (W := Wx T x e) (by omega) hE3 m3 (fun v i hv hi => ?_) (fun u2 f2 => ?_)
              · by_cases q : v = x
                · rw [q, Wx_s] at hi
                  simp at hi
                  omega
                · rw [Wx_n q] at hi
                  exact hb v (by omega) i hi
              · rw [Wx_ct, Wx_tF] at hge ⊢
                have fr4 := fr3.trans (aKu_W f2)
                have m4 : ∀ v, v < x → u2.1 110 v = oI (wd T v) := by
                  intro v hv
                  rw [f2.2 110 v rfl, m3 v (by omega), Wx_n (by omega)]
                show (¬ nI _ = nI (mm T) → _) ∧ (¬ ¬ nI _ = nI (mm T) → _)
                rw [nI_eq (by omega) (by omega)]
                refine ⟨fun z => ihr (e + 1) (by omega) u2 fr4 m4 ?_, fun z => ?_⟩
                · rw [if_neg (fun q => z (by have := q.2.2; omega))] at hwd
                  exact hwd
                · rw [if_pos ⟨ef, et, by omega⟩] at hwd
                  have dn := done u2 fr4 m4
                  rw [show oI (wd T x) = nI e by rw [hwd]; rfl] at dn
                  apply xX12_findWeddings_21
                  unfold vX12_findWeddings_21
                  simp only [ecx, nI_1 x]
                  refine ⟨fun _ => ⟨hin, dn⟩, fun _ => ⟨fun _ => ⟨hin, dn⟩, fun z => absurd (fun y => (oI_n (show e < 2 ^ 31 by omega)).mp y) z⟩⟩
      apply xX12_findWeddings_8
      unfold vX12_findWeddings_8
      rw [hE.nw, nI_leI (by omega) (by omega)]
      refine ⟨fun z => absurd z (by omega), fun _ => ?_⟩
      exact lp 61 0 rfl u fu hu (wd_eq T x)
  apply eX12_findWeddings
  unfold vX12_findWeddings_0
  refine R_mostWith (d := d) (f := 0) (W := fun _ => none) (by omega) hE0 (fun v hv => absurd hv (by omega)) (fun v e hv => absurd hv (by omega)) (fun u fu => ?_)
  have e1 : ct (fun v => ((fun _ => none : Nat → Option Nat) v).isSome) 0 + mm1 T (fun e => (tF (fun _ => none) 0 e).isSome) (allw T 0) = mm T := Nat.zero_add _
  rw [e1]
  exact loop (T 7 3) 0 (by omega) u (aKu_W fu) (fun v hv => absurd hv (by omega))
