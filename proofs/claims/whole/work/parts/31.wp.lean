def vX6_copy_0 (d : Nat) (o0 : Nat) (r1 : Nat) (w : q_Sm) (Q : s_Po) (X : s_Xo) : Prop := (q_id 116 6 r1) ∧ (q_id 116 6 o0) ∧ (q_id 116 14 (r1 + 1) ∧ q_id 116 14 (o0 + 1)) ∧ (¬ (0 : Int32) < 0 ∧ ¬ (0 : Int32) < 0 ∧ ¬ (59 : Int32) < 0) ∧ ((Int32.toNatClampNeg 0) + (Int32.toNatClampNeg 59) ≤ (q_sh (r1 + 1)).2 ∧ (Int32.toNatClampNeg 0) + (Int32.toNatClampNeg 59) ≤ (q_sh (o0 + 1)).2) ∧ ∀ w_1 : q_Sm, w_1 = q_cp w (r1 + 1) (Int32.toNatClampNeg 0) (o0 + 1) (Int32.toNatClampNeg 0) (Int32.toNatClampNeg 59) → Q none w_1
theorem xX6_copy_0 {d : Nat} {o0 : Nat} {r1 : Nat} {w : q_Sm} {Q : s_Po} {X : s_Xo} (h : vX6_copy_0 d o0 r1 w Q X) : s_Ex (d + 1) 0 mX6_copy 0 [some (.ref (o0)), some (.ref (r1))] [] w Q X := by
  unfold vX6_copy_0 at h
  obtain ⟨ho2, h⟩ := h
  obtain ⟨ho3, h⟩ := h
  refine s_blk [(.aload_n 1, 1, 0, 0), (.getfield 11, 3, 6, 0), (.iconst 0, 1, 0, 0), (.aload_n 0, 1, 0, 0), (.getfield 11, 3, 6, 0), (.iconst 0, 1, 0, 0), (.bipush 59, 2, 0, 0)] 12 [some (.ref (o0)), some (.ref (r1))] [.int (59), .int (0), .ref (o0 + 1), .int (0), .ref (r1 + 1)] w [q_id 116 6 r1, q_id 116 6 o0] (by decide +kernel) (by refine qt_aload_n (r := r1) rfl ?_; refine qt_getR (r := r1 + 1) rfl rfl rfl ?_; refine qt_iconst qc_0 ?_; refine qt_aload_n (r := o0) rfl ?_; refine qt_getR (r := o0 + 1) rfl rfl rfl ?_; refine qt_iconst qc_0 ?_; refine qt_bipush qb_59 ?_; exact qt_z rfl rfl rfl rfl rfl) ⟨ho2, ho3⟩ ?_
  obtain ⟨⟨z1, z2⟩, ⟨z3, z4, z5⟩, ⟨z6, z7⟩, h⟩ := h
  replace h := h _ rfl
  refine s_copy l_6_37 (by decide +kernel) z1 z2 z3 z4 z5 z6 z7 (Nat.le_of_ble_eq_true rfl) ?_
  exact s_retV (by decide +kernel) rfl h
theorem eX6_copy {d : Nat} {o0 : Nat} {r1 : Nat} {w : q_Sm} {Q : s_Po} {X : s_Xo} (h : vX6_copy_0 d o0 r1 w Q X) : s_Ev (d + 1) 0 mX6_copy w [.ref (o0), .ref (r1)] Q X := s_of (by decide +kernel) rfl (Nat.le_of_ble_eq_true rfl) (xX6_copy_0 h)
def vX8_copy_0 (d : Nat) (o0 : Nat) (r1 : Nat) (w : q_Sm) (Q : s_Po) (X : s_Xo) : Prop := (q_id 116 8 r1) ∧ (q_id 116 8 o0) ∧ ∀ w_1 : q_Sm, w_1 = q_wI w o0 1 (w.1 r1 1) → (q_id 116 8 r1) ∧ (q_id 116 8 o0) ∧ (q_id 116 8 o0) ∧ (q_id 116 14 (r1 + 1) ∧ q_id 116 14 (o0 + 1)) ∧ (¬ (0 : Int32) < 0 ∧ ¬ (0 : Int32) < 0 ∧ ¬ ((w_1.1 o0 1) * 59) < 0) ∧ ((Int32.toNatClampNeg 0) + (Int32.toNatClampNeg ((w_1.1 o0 1) * 59)) ≤ (q_sh (r1 + 1)).2 ∧ (Int32.toNatClampNeg 0) + (Int32.toNatClampNeg ((w_1.1 o0 1) * 59)) ≤ (q_sh (o0 + 1)).2) ∧ ∀ w_2 : q_Sm, w_2 = q_cp w_1 (r1 + 1) (Int32.toNatClampNeg 0) (o0 + 1) (Int32.toNatClampNeg 0) (Int32.toNatClampNeg ((w_1.1 o0 1) * 59)) → Q none w_2
theorem xX8_copy_0 {d : Nat} {o0 : Nat} {r1 : Nat} {w : q_Sm} {Q : s_Po} {X : s_Xo} (h : vX8_copy_0 d o0 r1 w Q X) : s_Ex (d + 1) 0 mX8_copy 0 [some (.ref (o0)), some (.ref (r1))] [] w Q X := by
  unfold vX8_copy_0 at h
  obtain ⟨ho3, h⟩ := h
  obtain ⟨ho4, h⟩ := h
  replace h := h _ rfl
  obtain ⟨ho5, h⟩ := h
  obtain ⟨ho6, h⟩ := h
  obtain ⟨ho7, h⟩ := h
  refine s_blk [(.aload_n 0, 1, 0, 0), (.aload_n 1, 1, 0, 0), (.getfield 17, 3, 8, 1), (.putfield 17, 3, 8, 1), (.aload_n 1, 1, 0, 0), (.getfield 11, 3, 8, 0), (.iconst 0, 1, 0, 0), (.aload_n 0, 1, 0, 0), (.getfield 11, 3, 8, 0), (.iconst 0, 1, 0, 0), (.aload_n 0, 1, 0, 0), (.getfield 17, 3, 8, 1), (.bipush 59, 2, 0, 0), (.imul, 1, 0, 0)] 25 [some (.ref (o0)), some (.ref (r1))] [.int (((q_wI w o0 1 (w.1 r1 1)).1 o0 1) * 59), .int (0), .ref (o0 + 1), .int (0), .ref (r1 + 1)] (q_wI w o0 1 (w.1 r1 1)) [q_id 116 8 r1, q_id 116 8 o0, q_id 116 8 r1, q_id 116 8 o0, q_id 116 8 o0] (by decide +kernel) (by refine qt_aload_n (r := o0) rfl ?_; refine qt_aload_n (r := r1) rfl ?_; refine qt_getI rfl rfl ?_; refine qt_putI rfl ?_; refine qt_aload_n (r := r1) rfl ?_; refine qt_getR (r := r1 + 1) rfl rfl rfl ?_; refine qt_iconst qc_0 ?_; refine qt_aload_n (r := o0) rfl ?_; refine qt_getR (r := o0 + 1) rfl rfl rfl ?_; refine qt_iconst qc_0 ?_; refine qt_aload_n (r := o0) rfl ?_; refine qt_getI rfl rfl ?_; refine qt_bipush qb_59 ?_; refine qt_imul ?_; exact qt_z rfl rfl rfl rfl rfl) ⟨ho3, ho4, ho5, ho6, ho7⟩ ?_
  obtain ⟨⟨z1, z2⟩, ⟨z3, z4, z5⟩, ⟨z6, z7⟩, h⟩ := h
  replace h := h _ rfl
  refine s_copy l_8_21 (by decide +kernel) z1 z2 z3 z4 z5 z6 z7 (Nat.le_of_ble_eq_true rfl) ?_
  exact s_retV (by decide +kernel) rfl h
theorem eX8_copy {d : Nat} {o0 : Nat} {r1 : Nat} {w : q_Sm} {Q : s_Po} {X : s_Xo} (h : vX8_copy_0 d o0 r1 w Q X) : s_Ev (d + 1) 0 mX8_copy w [.ref (o0), .ref (r1)] Q X := s_of (by decide +kernel) rfl (Nat.le_of_ble_eq_true rfl) (xX8_copy_0 h)
def vX8_push_0 (d : Nat) (o0 : Nat) (r1 : Nat) (w : q_Sm) (Q : s_Po) (X : s_Xo) : Prop := (q_id 116 8 o0) ∧ ((16 < (w.1 o0 1)) → Q none w) ∧ (¬ (16 < (w.1 o0 1)) → (q_id 116 6 r1) ∧ (q_id 116 8 o0) ∧ (q_id 116 8 o0) ∧ (q_id 116 14 (r1 + 1) ∧ q_id 116 14 (o0 + 1)) ∧ (¬ (0 : Int32) < 0 ∧ ¬ ((w.1 o0 1) * 59) < 0 ∧ ¬ (59 : Int32) < 0) ∧ ((Int32.toNatClampNeg 0) + (Int32.toNatClampNeg 59) ≤ (q_sh (r1 + 1)).2 ∧ (Int32.toNatClampNeg ((w.1 o0 1) * 59)) + (Int32.toNatClampNeg 59) ≤ (q_sh (o0 + 1)).2) ∧ ∀ w_1 : q_Sm, w_1 = q_cp w (r1 + 1) (Int32.toNatClampNeg 0) (o0 + 1) (Int32.toNatClampNeg ((w.1 o0 1) * 59)) (Int32.toNatClampNeg 59) → (q_id 116 8 o0) ∧ (q_id 116 8 o0) ∧ ∀ w_2 : q_Sm, w_2 = q_wI w_1 o0 1 ((w_1.1 o0 1) + 1) → Q none w_2)
theorem xX8_push_0 {d : Nat} {o0 : Nat} {r1 : Nat} {w : q_Sm} {Q : s_Po} {X : s_Xo} (h : vX8_push_0 d o0 r1 w Q X) : s_Ex (d + 1) 0 mX8_push 0 [some (.ref (o0)), some (.ref (r1))] [] w Q X := by
  unfold vX8_push_0 at h
  obtain ⟨ho8, h⟩ := h
  refine s_blk [(.aload_n 0, 1, 0, 0), (.getfield 17, 3, 8, 1), (.bipush 16, 2, 0, 0)] 6 [some (.ref (o0)), some (.ref (r1))] [.int (16), .int (w.1 o0 1)] w [q_id 116 8 o0] (by decide +kernel) (by refine qt_aload_n (r := o0) rfl ?_; refine qt_getI rfl rfl ?_; refine qt_bipush qb_16 ?_; exact qt_z rfl rfl rfl rfl rfl) ho8 ?_
  refine s_icmp (cd := .gt) (off := 34) 40 (by decide +kernel) (by decide) (fun hc => ?_) (fun hc => ?_)
  · replace h := h.1 hc
    exact s_retV (by decide +kernel) rfl h
  · replace h := h.2 hc
    obtain ⟨ho5, h⟩ := h
    obtain ⟨ho6, h⟩ := h
    obtain ⟨ho7, h⟩ := h
    refine s_blk [(.aload_n 1, 1, 0, 0), (.getfield 27, 3, 6, 0), (.iconst 0, 1, 0, 0), (.aload_n 0, 1, 0, 0), (.getfield 11, 3, 8, 0), (.aload_n 0, 1, 0, 0), (.getfield 17, 3, 8, 1), (.bipush 59, 2, 0, 0), (.imul, 1, 0, 0), (.bipush 59, 2, 0, 0)] 27 [some (.ref (o0)), some (.ref (r1))] [.int (59), .int ((w.1 o0 1) * 59), .ref (o0 + 1), .int (0), .ref (r1 + 1)] w [q_id 116 6 r1, q_id 116 8 o0, q_id 116 8 o0] (by decide +kernel) (by refine qt_aload_n (r := r1) rfl ?_; refine qt_getR (r := r1 + 1) rfl rfl rfl ?_; refine qt_iconst qc_0 ?_; refine qt_aload_n (r := o0) rfl ?_; refine qt_getR (r := o0 + 1) rfl rfl rfl ?_; refine qt_aload_n (r := o0) rfl ?_; refine qt_getI rfl rfl ?_; refine qt_bipush qb_59 ?_; refine qt_imul ?_; refine qt_bipush qb_59 ?_; exact qt_z rfl rfl rfl rfl rfl) ⟨ho5, ho6, ho7⟩ ?_
    obtain ⟨⟨z1, z2⟩, ⟨z3, z4, z5⟩, ⟨z6, z7⟩, h⟩ := h
    replace h := h _ rfl
    refine s_copy l_8_21 (by decide +kernel) z1 z2 z3 z4 z5 z6 z7 (Nat.le_of_ble_eq_true rfl) ?_
    obtain ⟨ho3, h⟩ := h
    obtain ⟨ho4, h⟩ := h
    replace h := h _ rfl
    refine s_blk [(.aload_n 0, 1, 0, 0), (.dup, 1, 0, 0), (.getfield 17, 3, 8, 1), (.iconst 1, 1, 0, 0), (.iadd, 1, 0, 0), (.putfield 17, 3, 8, 1)] 40 [some (.ref (o0)), some (.ref (r1))] [] (q_wI (q_cp w (r1 + 1) (Int32.toNatClampNeg 0) (o0 + 1) (Int32.toNatClampNeg ((w.1 o0 1) * 59)) (Int32.toNatClampNeg 59)) o0 1 (((q_cp w (r1 + 1) (Int32.toNatClampNeg 0) (o0 + 1) (Int32.toNatClampNeg ((w.1 o0 1) * 59)) (Int32.toNatClampNeg 59)).1 o0 1) + 1)) [q_id 116 8 o0, q_id 116 8 o0] (by decide +kernel) (by refine qt_aload_n (r := o0) rfl ?_; refine qt_dupR ?_; refine qt_getI rfl rfl ?_; refine qt_iconst qc_1 ?_; refine qt_iadd ?_; refine qt_putI rfl ?_; exact qt_z rfl rfl rfl rfl rfl) ⟨ho3, ho4⟩ ?_
    exact s_retV (by decide +kernel) rfl h
theorem eX8_push {d : Nat} {o0 : Nat} {r1 : Nat} {w : q_Sm} {Q : s_Po} {X : s_Xo} (h : vX8_push_0 d o0 r1 w Q X) : s_Ev (d + 1) 0 mX8_push w [.ref (o0), .ref (r1)] Q X := s_of (by decide +kernel) rfl (Nat.le_of_ble_eq_true rfl) (xX8_push_0 h)
def vX8_pop_0 (d : Nat) (o0 : Nat) (r1 : Nat) (w : q_Sm) (Q : s_Po) (X : s_Xo) : Prop := (q_id 116 8 o0) ∧ (((w.1 o0 1) ≤ 0) → Q none w) ∧ (¬ ((w.1 o0 1) ≤ 0) → (q_id 116 8 o0) ∧ (q_id 116 8 o0) ∧ ∀ w_1 : q_Sm, w_1 = q_wI w o0 1 ((w.1 o0 1) - 1) → (q_id 116 8 o0) ∧ (q_id 116 8 o0) ∧ (q_id 116 6 r1) ∧ (q_id 116 14 (o0 + 1) ∧ q_id 116 14 (r1 + 1)) ∧ (¬ ((w_1.1 o0 1) * 59) < 0 ∧ ¬ (0 : Int32) < 0 ∧ ¬ (59 : Int32) < 0) ∧ ((Int32.toNatClampNeg ((w_1.1 o0 1) * 59)) + (Int32.toNatClampNeg 59) ≤ (q_sh (o0 + 1)).2 ∧ (Int32.toNatClampNeg 0) + (Int32.toNatClampNeg 59) ≤ (q_sh (r1 + 1)).2) ∧ ∀ w_2 : q_Sm, w_2 = q_cp w_1 (o0 + 1) (Int32.toNatClampNeg ((w_1.1 o0 1) * 59)) (r1 + 1) (Int32.toNatClampNeg 0) (Int32.toNatClampNeg 59) → Q none w_2)
theorem xX8_pop_0 {d : Nat} {o0 : Nat} {r1 : Nat} {w : q_Sm} {Q : s_Po} {X : s_Xo} (h : vX8_pop_0 d o0 r1 w Q X) : s_Ex (d + 1) 0 mX8_pop 0 [some (.ref (o0)), some (.ref (r1))] [] w Q X := by
  unfold vX8_pop_0 at h
  obtain ⟨ho8, h⟩ := h
  refine s_blk [(.aload_n 0, 1, 0, 0), (.getfield 17, 3, 8, 1)] 4 [some (.ref (o0)), some (.ref (r1))] [.int (w.1 o0 1)] w [q_id 116 8 o0] (by decide +kernel) (by refine qt_aload_n (r := o0) rfl ?_; refine qt_getI rfl rfl ?_; exact qt_z rfl rfl rfl rfl rfl) ho8 ?_
  refine s_if (cd := .le) (off := 34) 38 (by decide +kernel) (by decide) (fun hc => ?_) (fun hc => ?_)
  · replace h := h.1 hc
    exact s_retV (by decide +kernel) rfl h
  · replace h := h.2 hc
    obtain ⟨ho3, h⟩ := h
    obtain ⟨ho4, h⟩ := h
    replace h := h _ rfl
    obtain ⟨ho5, h⟩ := h
    obtain ⟨ho6, h⟩ := h
    obtain ⟨ho7, h⟩ := h
    refine s_blk [(.aload_n 0, 1, 0, 0), (.dup, 1, 0, 0), (.getfield 17, 3, 8, 1), (.iconst 1, 1, 0, 0), (.isub, 1, 0, 0), (.putfield 17, 3, 8, 1), (.aload_n 0, 1, 0, 0), (.getfield 11, 3, 8, 0), (.aload_n 0, 1, 0, 0), (.getfield 17, 3, 8, 1), (.bipush 59, 2, 0, 0), (.imul, 1, 0, 0), (.aload_n 1, 1, 0, 0), (.getfield 27, 3, 6, 0), (.iconst 0, 1, 0, 0), (.bipush 59, 2, 0, 0)] 35 [some (.ref (o0)), some (.ref (r1))] [.int (59), .int (0), .ref (r1 + 1), .int (((q_wI w o0 1 ((w.1 o0 1) - 1)).1 o0 1) * 59), .ref (o0 + 1)] (q_wI w o0 1 ((w.1 o0 1) - 1)) [q_id 116 8 o0, q_id 116 8 o0, q_id 116 8 o0, q_id 116 8 o0, q_id 116 6 r1] (by decide +kernel) (by refine qt_aload_n (r := o0) rfl ?_; refine qt_dupR ?_; refine qt_getI rfl rfl ?_; refine qt_iconst qc_1 ?_; refine qt_isub ?_; refine qt_putI rfl ?_; refine qt_aload_n (r := o0) rfl ?_; refine qt_getR (r := o0 + 1) rfl rfl rfl ?_; refine qt_aload_n (r := o0) rfl ?_; refine qt_getI rfl rfl ?_; refine qt_bipush qb_59 ?_; refine qt_imul ?_; refine qt_aload_n (r := r1) rfl ?_; refine qt_getR (r := r1 + 1) rfl rfl rfl ?_; refine qt_iconst qc_0 ?_; refine qt_bipush qb_59 ?_; exact qt_z rfl rfl rfl rfl rfl) ⟨ho3, ho4, ho5, ho6, ho7⟩ ?_
    obtain ⟨⟨z1, z2⟩, ⟨z3, z4, z5⟩, ⟨z6, z7⟩, h⟩ := h
    replace h := h _ rfl
    refine s_copy l_8_21 (by decide +kernel) z1 z2 z3 z4 z5 z6 z7 (Nat.le_of_ble_eq_true rfl) ?_
    exact s_retV (by decide +kernel) rfl h
theorem eX8_pop {d : Nat} {o0 : Nat} {r1 : Nat} {w : q_Sm} {Q : s_Po} {X : s_Xo} (h : vX8_pop_0 d o0 r1 w Q X) : s_Ev (d + 1) 0 mX8_pop w [.ref (o0), .ref (r1)] Q X := s_of (by decide +kernel) rfl (Nat.le_of_ble_eq_true rfl) (xX8_pop_0 h)
