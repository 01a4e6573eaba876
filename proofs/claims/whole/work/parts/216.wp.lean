def vX6_unspent_0 (d : Nat) (o0 : Nat) (x1 : Int32) (w : q_Sm) (Q : s_Po) (X : s_Xo) : Prop := (q_id 116 6 o0) ∧ (q_id 116 14 (o0 + 1)) ∧ (vp_in (50 + x1) (q_sh (o0 + 1)).2) ∧ Q (some (.int (w.1 (o0 + 1) (Int32.toNatClampNeg (50 + x1))))) w
theorem xX6_unspent_0 {d : Nat} {o0 : Nat} {x1 : Int32} {w : q_Sm} {Q : s_Po} {X : s_Xo} (h : vX6_unspent_0 d o0 x1 w Q X) : s_Ex (d + 1) 0 mX6_unspent 0 [some (.ref (o0)), some (.int (x1))] [] w Q X := by
  unfold vX6_unspent_0 at h
  obtain ⟨ho1, h⟩ := h
  obtain ⟨ho2, h⟩ := h
  obtain ⟨ho3, h⟩ := h
  refine s_blk [(.aload_n 0, 1, 0, 0), (.getfield 11, 3, 6, 0), (.bipush 50, 2, 0, 0), (.iload_n 1, 1, 0, 0), (.iadd, 1, 0, 0), (.iaload, 1, 0, 0)] 9 [some (.ref (o0)), some (.int (x1))] [.int (w.1 (o0 + 1) (Int32.toNatClampNeg (50 + x1)))] w [q_id 116 6 o0, q_id 116 14 (o0 + 1), vp_in (50 + x1) (q_sh (o0 + 1)).2] (by decide +kernel) (by refine qt_aload_n (r := o0) rfl ?_; refine qt_getR (r := o0 + 1) rfl rfl rfl ?_; refine qt_bipush qb_50 ?_; refine qt_iload_n (x := x1) rfl ?_; refine qt_iadd ?_; refine qt_iald ?_; exact qt_z rfl rfl rfl rfl rfl) ⟨ho1, ho2, ho3⟩ ?_
  exact s_retI .int (by decide +kernel) rfl rfl h
theorem eX6_unspent {d : Nat} {o0 : Nat} {x1 : Int32} {w : q_Sm} {Q : s_Po} {X : s_Xo} (h : vX6_unspent_0 d o0 x1 w Q X) : s_Ev (d + 1) 0 mX6_unspent w [.ref (o0), .int (x1)] Q X := s_of (by decide +kernel) rfl (Nat.le_of_ble_eq_true rfl) (xX6_unspent_0 h)
def vX6_lent_0 (d : Nat) (o0 : Nat) (x1 : Int32) (w : q_Sm) (Q : s_Po) (X : s_Xo) : Prop := (q_id 116 6 o0) ∧ (q_id 116 14 (o0 + 1)) ∧ (vp_in (54 + x1) (q_sh (o0 + 1)).2) ∧ Q (some (.int (w.1 (o0 + 1) (Int32.toNatClampNeg (54 + x1))))) w
theorem xX6_lent_0 {d : Nat} {o0 : Nat} {x1 : Int32} {w : q_Sm} {Q : s_Po} {X : s_Xo} (h : vX6_lent_0 d o0 x1 w Q X) : s_Ex (d + 1) 0 mX6_lent 0 [some (.ref (o0)), some (.int (x1))] [] w Q X := by
  unfold vX6_lent_0 at h
  obtain ⟨ho1, h⟩ := h
  obtain ⟨ho2, h⟩ := h
  obtain ⟨ho3, h⟩ := h
  refine s_blk [(.aload_n 0, 1, 0, 0), (.getfield 11, 3, 6, 0), (.bipush 54, 2, 0, 0), (.iload_n 1, 1, 0, 0), (.iadd, 1, 0, 0), (.iaload, 1, 0, 0)] 9 [some (.ref (o0)), some (.int (x1))] [.int (w.1 (o0 + 1) (Int32.toNatClampNeg (54 + x1)))] w [q_id 116 6 o0, q_id 116 14 (o0 + 1), vp_in (54 + x1) (q_sh (o0 + 1)).2] (by decide +kernel) (by refine qt_aload_n (r := o0) rfl ?_; refine qt_getR (r := o0 + 1) rfl rfl rfl ?_; refine qt_bipush qb_54 ?_; refine qt_iload_n (x := x1) rfl ?_; refine qt_iadd ?_; refine qt_iald ?_; exact qt_z rfl rfl rfl rfl rfl) ⟨ho1, ho2, ho3⟩ ?_
  exact s_retI .int (by decide +kernel) rfl rfl h
theorem eX6_lent {d : Nat} {o0 : Nat} {x1 : Int32} {w : q_Sm} {Q : s_Po} {X : s_Xo} (h : vX6_lent_0 d o0 x1 w Q X) : s_Ev (d + 1) 0 mX6_lent w [.ref (o0), .int (x1)] Q X := s_of (by decide +kernel) rfl (Nat.le_of_ble_eq_true rfl) (xX6_lent_0 h)
def vX6_pay_0 (d : Nat) (o0 : Nat) (r1 : Nat) (x2 : Int32) (x3 : Int32) (w : q_Sm) (Q : s_Po) (X : s_Xo) : Prop := (q_id 116 2 r1) ∧ (q_id 116 14 (r1 + 4)) ∧ (vp_in x2 (q_sh (r1 + 4)).2) ∧ ((x3 ≤ 0) → Q (some (.int (0))) w) ∧ (¬ (x3 ≤ 0) → q_id 116 6 o0 ∧ s_EvI d 0 mX6_owed w [.ref (o0), .int (x2)] (fun v1 u2 => ((v1 < x3) → Q (some (.int (0))) u2) ∧ (¬ (v1 < x3) → q_id 116 6 o0 ∧ s_EvI d 0 mX6_unspent u2 [.ref (o0), .int (w.1 (r1 + 4) (Int32.toNatClampNeg x2))] (fun v3 u4 => ((x3 ≤ v3) → (q_id 116 6 o0) ∧ (q_id 116 14 (o0 + 1)) ∧ (vp_in (50 + (w.1 (r1 + 4) (Int32.toNatClampNeg x2))) (q_sh (o0 + 1)).2) ∧ (q_id 116 14 (o0 + 1)) ∧ (vp_in (50 + (w.1 (r1 + 4) (Int32.toNatClampNeg x2))) (q_sh (o0 + 1)).2) ∧ ∀ w_5 : q_Sm, w_5 = q_wI u4 (o0 + 1) (Int32.toNatClampNeg (50 + (w.1 (r1 + 4) (Int32.toNatClampNeg x2)))) ((u4.1 (o0 + 1) (Int32.toNatClampNeg (50 + (w.1 (r1 + 4) (Int32.toNatClampNeg x2))))) - x3) → (q_id 116 6 o0) ∧ (q_id 116 14 (o0 + 1)) ∧ (vp_in (0 + x2) (q_sh (o0 + 1)).2) ∧ (q_id 116 14 (o0 + 1)) ∧ (vp_in (0 + x2) (q_sh (o0 + 1)).2) ∧ ∀ w_6 : q_Sm, w_6 = q_wI w_5 (o0 + 1) (Int32.toNatClampNeg (0 + x2)) ((w_5.1 (o0 + 1) (Int32.toNatClampNeg (0 + x2))) - x3) → (q_id 116 6 o0) ∧ (q_id 116 14 (o0 + 1)) ∧ (vp_in (20 + x2) (q_sh (o0 + 1)).2) ∧ (q_id 116 14 (o0 + 1)) ∧ (vp_in (20 + x2) (q_sh (o0 + 1)).2) ∧ ∀ w_7 : q_Sm, w_7 = q_wI w_6 (o0 + 1) (Int32.toNatClampNeg (20 + x2)) ((w_6.1 (o0 + 1) (Int32.toNatClampNeg (20 + x2))) + x3) → (q_id 116 6 o0) ∧ (q_id 116 14 (o0 + 1)) ∧ (vp_in (30 + x2) (q_sh (o0 + 1)).2) ∧ (q_id 116 14 (o0 + 1)) ∧ (vp_in (30 + x2) (q_sh (o0 + 1)).2) ∧ ∀ w_8 : q_Sm, w_8 = q_wI w_7 (o0 + 1) (Int32.toNatClampNeg (30 + x2)) ((w_7.1 (o0 + 1) (Int32.toNatClampNeg (30 + x2))) + x3) → Q (some (.int (1))) w_8) ∧ (¬ (x3 ≤ v3) → Q (some (.int (0))) u4)) X)) X)
theorem xX6_pay_0 {d : Nat} {o0 : Nat} {r1 : Nat} {x2 : Int32} {x3 : Int32} {w : q_Sm} {Q : s_Po} {X : s_Xo} (h : vX6_pay_0 d o0 r1 x2 x3 w Q X) : s_Ex (d + 1) 0 mX6_pay 0 [some (.ref (o0)), some (.ref (r1)), some (.int (x2)), some (.int (x3)), none] [] w Q X := by
  unfold vX6_pay_0 at h
  obtain ⟨ho29, h⟩ := h
  obtain ⟨ho30, h⟩ := h
  obtain ⟨ho31, h⟩ := h
  refine s_blk [(.aload_n 1, 1, 0, 0), (.getfield 43, 3, 2, 5), (.iload_n 2, 1, 0, 0), (.iaload, 1, 0, 0), (.istore 4, 2, 0, 0), (.iload_n 3, 1, 0, 0)] 9 [some (.ref (o0)), some (.ref (r1)), some (.int (x2)), some (.int (x3)), some (.int (w.1 (r1 + 4) (Int32.toNatClampNeg x2)))] [.int (x3)] w [q_id 116 2 r1, q_id 116 14 (r1 + 4), vp_in x2 (q_sh (r1 + 4)).2] (by decide +kernel) (by refine qt_aload_n (r := r1) rfl ?_; refine qt_getR (r := r1 + 4) rfl rfl rfl ?_; refine qt_iload_n (x := x2) rfl ?_; refine qt_iald ?_; refine qt_istore (L' := [some (.ref (o0)), some (.ref (r1)), some (.int (x2)), some (.int (x3)), some (.int (w.1 (r1 + 4) (Int32.toNatClampNeg x2)))]) rfl ?_; refine qt_iload_n (x := x3) rfl ?_; exact qt_z rfl rfl rfl rfl rfl) ⟨ho29, ho30, ho31⟩ ?_
  refine s_if (cd := .le) (off := 22) 31 (by decide +kernel) (by decide) (fun hc => ?_) (fun hc => ?_)
  · replace h := h.1 hc
    refine s_blk [(.iconst 0, 1, 0, 0)] 32 [some (.ref (o0)), some (.ref (r1)), some (.int (x2)), some (.int (x3)), some (.int (w.1 (r1 + 4) (Int32.toNatClampNeg x2)))] [.int (0)] w [] (by decide +kernel) (by refine qt_iconst qc_0 ?_; exact qt_z rfl rfl rfl rfl rfl) trivial ?_
    exact s_retI .boolean (by decide +kernel) rfl rfl h
  · replace h := h.2 hc
    refine s_blk [(.iload_n 3, 1, 0, 0), (.aload_n 0, 1, 0, 0), (.iload_n 2, 1, 0, 0)] 15 [some (.ref (o0)), some (.ref (r1)), some (.int (x2)), some (.int (x3)), some (.int (w.1 (r1 + 4) (Int32.toNatClampNeg x2)))] [.int (x2), .ref (o0), .int (x3)] w [] (by decide +kernel) (by refine qt_iload_n (x := x3) rfl ?_; refine qt_aload_n (r := o0) rfl ?_; refine qt_iload_n (x := x2) rfl ?_; exact qt_z rfl rfl rfl rfl rfl) trivial ?_
    obtain ⟨hid, h⟩ := h
    refine s_callV (a := 0) (a' := 0) (As := [.int (x2)]) (id := o0) (st := [.int (x3)]) kX6_owed l_6_46 (by decide +kernel) hid rfl (Nat.le_of_ble_eq_true rfl) (s_mono h (s_I_of (fun v1 u2 h => ?_)) (fun _ _ h9 => h9))
    show s_Ex (d + 1) 0 mX6_pay 18 [some (.ref (o0)), some (.ref (r1)), some (.int (x2)), some (.int (x3)), some (.int (w.1 (r1 + 4) (Int32.toNatClampNeg x2)))] [.int (v1), .int (x3)] u2 Q X
    refine s_icmp (cd := .gt) (off := 13) 31 (by decide +kernel) (by decide) (fun hc => ?_) (fun hc => ?_)
    · replace h := h.1 hc
      refine s_blk [(.iconst 0, 1, 0, 0)] 32 [some (.ref (o0)), some (.ref (r1)), some (.int (x2)), some (.int (x3)), some (.int (w.1 (r1 + 4) (Int32.toNatClampNeg x2)))] [.int (0)] u2 [] (by decide +kernel) (by refine qt_iconst qc_0 ?_; exact qt_z rfl rfl rfl rfl rfl) trivial ?_
      exact s_retI .boolean (by decide +kernel) rfl rfl h
    · replace h := h.2 hc
      refine s_blk [(.iload_n 3, 1, 0, 0), (.aload_n 0, 1, 0, 0), (.iload 4, 2, 0, 0)] 25 [some (.ref (o0)), some (.ref (r1)), some (.int (x2)), some (.int (x3)), some (.int (w.1 (r1 + 4) (Int32.toNatClampNeg x2)))] [.int (w.1 (r1 + 4) (Int32.toNatClampNeg x2)), .ref (o0), .int (x3)] u2 [] (by decide +kernel) (by refine qt_iload_n (x := x3) rfl ?_; refine qt_aload_n (r := o0) rfl ?_; refine qt_iload (x := w.1 (r1 + 4) (Int32.toNatClampNeg x2)) rfl ?_; exact qt_z rfl rfl rfl rfl rfl) trivial ?_
      obtain ⟨hid, h⟩ := h
      refine s_callV (a := 0) (a' := 0) (As := [.int (w.1 (r1 + 4) (Int32.toNatClampNeg x2))]) (id := o0) (st := [.int (x3)]) kX6_unspent l_6_50 (by decide +kernel) hid rfl (Nat.le_of_ble_eq_true rfl) (s_mono h (s_I_of (fun v3 u4 h => ?_)) (fun _ _ h9 => h9))
      show s_Ex (d + 1) 0 mX6_pay 28 [some (.ref (o0)), some (.ref (r1)), some (.int (x2)), some (.int (x3)), some (.int (w.1 (r1 + 4) (Int32.toNatClampNeg x2)))] [.int (v3), .int (x3)] u4 Q X
      refine s_icmp (cd := .le) (off := 5) 33 (by decide +kernel) (by decide) (fun hc => ?_) (fun hc => ?_)
      · replace h := h.1 hc
        obtain ⟨ho9, h⟩ := h
        obtain ⟨ho10, h⟩ := h
        obtain ⟨ho11, h⟩ := h
        obtain ⟨ho12, h⟩ := h
        obtain ⟨ho13, h⟩ := h
        replace h := h _ rfl
        obtain ⟨ho14, h⟩ := h
        obtain ⟨ho15, h⟩ := h
        obtain ⟨ho16, h⟩ := h
        obtain ⟨ho17, h⟩ := h
        obtain ⟨ho18, h⟩ := h
        replace h := h _ rfl
        obtain ⟨ho19, h⟩ := h
        obtain ⟨ho20, h⟩ := h
        obtain ⟨ho21, h⟩ := h
        obtain ⟨ho22, h⟩ := h
        obtain ⟨ho23, h⟩ := h
        replace h := h _ rfl
        obtain ⟨ho24, h⟩ := h
        obtain ⟨ho25, h⟩ := h
        obtain ⟨ho26, h⟩ := h
        obtain ⟨ho27, h⟩ := h
        obtain ⟨ho28, h⟩ := h
        replace h := h _ rfl
        refine s_blk [(.aload_n 0, 1, 0, 0), (.getfield 11, 3, 6, 0), (.bipush 50, 2, 0, 0), (.iload 4, 2, 0, 0), (.iadd, 1, 0, 0), (.dup2, 1, 0, 0), (.iaload, 1, 0, 0), (.iload_n 3, 1, 0, 0), (.isub, 1, 0, 0), (.iastore, 1, 0, 0), (.aload_n 0, 1, 0, 0), (.getfield 11, 3, 6, 0), (.iconst 0, 1, 0, 0), (.iload_n 2, 1, 0, 0), (.iadd, 1, 0, 0), (.dup2, 1, 0, 0), (.iaload, 1, 0, 0), (.iload_n 3, 1, 0, 0), (.isub, 1, 0, 0), (.iastore, 1, 0, 0), (.aload_n 0, 1, 0, 0), (.getfield 11, 3, 6, 0), (.bipush 20, 2, 0, 0), (.iload_n 2, 1, 0, 0), (.iadd, 1, 0, 0), (.dup2, 1, 0, 0), (.iaload, 1, 0, 0), (.iload_n 3, 1, 0, 0), (.iadd, 1, 0, 0), (.iastore, 1, 0, 0), (.aload_n 0, 1, 0, 0), (.getfield 11, 3, 6, 0), (.bipush 30, 2, 0, 0), (.iload_n 2, 1, 0, 0), (.iadd, 1, 0, 0), (.dup2, 1, 0, 0), (.iaload, 1, 0, 0), (.iload_n 3, 1, 0, 0), (.iadd, 1, 0, 0), (.iastore, 1, 0, 0), (.iconst 1, 1, 0, 0)] 86 [some (.ref (o0)), some (.ref (r1)), some (.int (x2)), some (.int (x3)), some (.int (w.1 (r1 + 4) (Int32.toNatClampNeg x2)))] [.int (1)] (q_wI (q_wI (q_wI (q_wI u4 (o0 + 1) (Int32.toNatClampNeg (50 + (w.1 (r1 + 4) (Int32.toNatClampNeg x2)))) ((u4.1 (o0 + 1) (Int32.toNatClampNeg (50 + (w.1 (r1 + 4) (Int32.toNatClampNeg x2))))) - x3)) (o0 + 1) (Int32.toNatClampNeg (0 + x2)) (((q_wI u4 (o0 + 1) (Int32.toNatClampNeg (50 + (w.1 (r1 + 4) (Int32.toNatClampNeg x2)))) ((u4.1 (o0 + 1) (Int32.toNatClampNeg (50 + (w.1 (r1 + 4) (Int32.toNatClampNeg x2))))) - x3)).1 (o0 + 1) (Int32.toNatClampNeg (0 + x2))) - x3)) (o0 + 1) (Int32.toNatClampNeg (20 + x2)) (((q_wI (q_wI u4 (o0 + 1) (Int32.toNatClampNeg (50 + (w.1 (r1 + 4) (Int32.toNatClampNeg x2)))) ((u4.1 (o0 + 1) (Int32.toNatClampNeg (50 + (w.1 (r1 + 4) (Int32.toNatClampNeg x2))))) - x3)) (o0 + 1) (Int32.toNatClampNeg (0 + x2)) (((q_wI u4 (o0 + 1) (Int32.toNatClampNeg (50 + (w.1 (r1 + 4) (Int32.toNatClampNeg x2)))) ((u4.1 (o0 + 1) (Int32.toNatClampNeg (50 + (w.1 (r1 + 4) (Int32.toNatClampNeg x2))))) - x3)).1 (o0 + 1) (Int32.toNatClampNeg (0 + x2))) - x3)).1 (o0 + 1) (Int32.toNatClampNeg (20 + x2))) + x3)) (o0 + 1) (Int32.toNatClampNeg (30 + x2)) (((q_wI (q_wI (q_wI u4 (o0 + 1) (Int32.toNatClampNeg (50 + (w.1 (r1 + 4) (Int32.toNatClampNeg x2)))) ((u4.1 (o0 + 1) (Int32.toNatClampNeg (50 + (w.1 (r1 + 4) (Int32.toNatClampNeg x2))))) - x3)) (o0 + 1) (Int32.toNatClampNeg (0 + x2)) (((q_wI u4 (o0 + 1) (Int32.toNatClampNeg (50 + (w.1 (r1 + 4) (Int32.toNatClampNeg x2)))) ((u4.1 (o0 + 1) (Int32.toNatClampNeg (50 + (w.1 (r1 + 4) (Int32.toNatClampNeg x2))))) - x3)).1 (o0 + 1) (Int32.toNatClampNeg (0 + x2))) - x3)) (o0 + 1) (Int32.toNatClampNeg (20 + x2)) (((q_wI (q_wI u4 (o0 + 1) (Int32.toNatClampNeg (50 + (w.1 (r1 + 4) (Int32.toNatClampNeg x2)))) ((u4.1 (o0 + 1) (Int32.toNatClampNeg (50 + (w.1 (r1 + 4) (Int32.toNatClampNeg x2))))) - x3)) (o0 + 1) (Int32.toNatClampNeg (0 + x2)) (((q_wI u4 (o0 + 1) (Int32.toNatClampNeg (50 + (w.1 (r1 + 4) (Int32.toNatClampNeg x2)))) ((u4.1 (o0 + 1) (Int32.toNatClampNeg (50 + (w.1 (r1 + 4) (Int32.toNatClampNeg x2))))) - x3)).1 (o0 + 1) (Int32.toNatClampNeg (0 + x2))) - x3)).1 (o0 + 1) (Int32.toNatClampNeg (20 + x2))) + x3)).1 (o0 + 1) (Int32.toNatClampNeg (30 + x2))) + x3)) [q_id 116 6 o0, q_id 116 14 (o0 + 1), vp_in (50 + (w.1 (r1 + 4) (Int32.toNatClampNeg x2))) (q_sh (o0 + 1)).2, q_id 116 14 (o0 + 1), vp_in (50 + (w.1 (r1 + 4) (Int32.toNatClampNeg x2))) (q_sh (o0 + 1)).2, q_id 116 6 o0, q_id 116 14 (o0 + 1), vp_in (0 + x2) (q_sh (o0 + 1)).2, q_id 116 14 (o0 + 1), vp_in (0 + x2) (q_sh (o0 + 1)).2, q_id 116 6 o0, q_id 116 14 (o0 + 1), vp_in (20 + x2) (q_sh (o0 + 1)).2, q_id 116 14 (o0 + 1), vp_in (20 + x2) (q_sh (o0 + 1)).2, q_id 116 6 o0, q_id 116 14 (o0 + 1), vp_in (30 + x2) (q_sh (o0 + 1)).2, q_id 116 14 (o0 + 1), vp_in (30 + x2) (q_sh (o0 + 1)).2] (by decide +kernel) (by refine qt_aload_n (r := o0) rfl ?_; refine qt_getR (r := o0 + 1) rfl rfl rfl ?_; refine qt_bipush qb_50 ?_; refine qt_iload (x := w.1 (r1 + 4) (Int32.toNatClampNeg x2)) rfl ?_; refine qt_iadd ?_; refine qt_dup2 ?_; refine qt_iald ?_; refine qt_iload_n (x := x3) rfl ?_; refine qt_isub ?_; refine qt_iast ?_; refine qt_aload_n (r := o0) rfl ?_; refine qt_getR (r := o0 + 1) rfl rfl rfl ?_; refine qt_iconst qc_0 ?_; refine qt_iload_n (x := x2) rfl ?_; refine qt_iadd ?_; refine qt_dup2 ?_; refine qt_iald ?_; refine qt_iload_n (x := x3) rfl ?_; refine qt_isub ?_; refine qt_iast ?_; refine qt_aload_n (r := o0) rfl ?_; refine qt_getR (r := o0 + 1) rfl rfl rfl ?_; refine qt_bipush qb_20 ?_; refine qt_iload_n (x := x2) rfl ?_; refine qt_iadd ?_; refine qt_dup2 ?_; refine qt_iald ?_; refine qt_iload_n (x := x3) rfl ?_; refine qt_iadd ?_; refine qt_iast ?_; refine qt_aload_n (r := o0) rfl ?_; refine qt_getR (r := o0 + 1) rfl rfl rfl ?_; refine qt_bipush qb_30 ?_; refine qt_iload_n (x := x2) rfl ?_; refine qt_iadd ?_; refine qt_dup2 ?_; refine qt_iald ?_; refine qt_iload_n (x := x3) rfl ?_; refine qt_iadd ?_; refine qt_iast ?_; refine qt_iconst qc_1 ?_; exact qt_z rfl rfl rfl rfl rfl) ⟨ho9, ho10, ho11, ho12, ho13, ho14, ho15, ho16, ho17, ho18, ho19, ho20, ho21, ho22, ho23, ho24, ho25, ho26, ho27, ho28⟩ ?_
        exact s_retI .boolean (by decide +kernel) rfl rfl h
      · replace h := h.2 hc
        refine s_blk [(.iconst 0, 1, 0, 0)] 32 [some (.ref (o0)), some (.ref (r1)), some (.int (x2)), some (.int (x3)), some (.int (w.1 (r1 + 4) (Int32.toNatClampNeg x2)))] [.int (0)] u4 [] (by decide +kernel) (by refine qt_iconst qc_0 ?_; exact qt_z rfl rfl rfl rfl rfl) trivial ?_
        exact s_retI .boolean (by decide +kernel) rfl rfl h
theorem eX6_pay {d : Nat} {o0 : Nat} {r1 : Nat} {x2 : Int32} {x3 : Int32} {w : q_Sm} {Q : s_Po} {X : s_Xo} (h : vX6_pay_0 d o0 r1 x2 x3 w Q X) : s_Ev (d + 1) 0 mX6_pay w [.ref (o0), .ref (r1), .int (x2), .int (x3)] Q X := s_of (by decide +kernel) rfl (Nat.le_of_ble_eq_true rfl) (xX6_pay_0 h)
def vX6_borrow_0 (d : Nat) (o0 : Nat) (r1 : Nat) (x2 : Int32) (x3 : Int32) (w : q_Sm) (Q : s_Po) (X : s_Xo) : Prop := (q_id 116 2 r1) ∧ (q_id 116 14 (r1 + 11)) ∧ (vp_in x2 (q_sh (r1 + 11)).2) ∧ q_id 116 6 o0 ∧ s_EvI d 0 mX6_lent w [.ref (o0), .int (x2)] (fun v1 u2 => ((x3 ≤ ((w.1 (r1 + 11) (Int32.toNatClampNeg x2)) - v1)) → (q_id 116 6 o0) ∧ (q_id 116 14 (o0 + 1)) ∧ (vp_in (54 + x2) (q_sh (o0 + 1)).2) ∧ (q_id 116 14 (o0 + 1)) ∧ (vp_in (54 + x2) (q_sh (o0 + 1)).2) ∧ ∀ w_3 : q_Sm, w_3 = q_wI u2 (o0 + 1) (Int32.toNatClampNeg (54 + x2)) ((u2.1 (o0 + 1) (Int32.toNatClampNeg (54 + x2))) + x3) → (q_id 116 6 o0) ∧ (q_id 116 14 (o0 + 1)) ∧ (vp_in (50 + x2) (q_sh (o0 + 1)).2) ∧ (q_id 116 14 (o0 + 1)) ∧ (vp_in (50 + x2) (q_sh (o0 + 1)).2) ∧ ∀ w_4 : q_Sm, w_4 = q_wI w_3 (o0 + 1) (Int32.toNatClampNeg (50 + x2)) ((w_3.1 (o0 + 1) (Int32.toNatClampNeg (50 + x2))) + x3) → Q (some (.int (1))) w_4) ∧ (¬ (x3 ≤ ((w.1 (r1 + 11) (Int32.toNatClampNeg x2)) - v1)) → Q (some (.int (0))) u2)) X
theorem xX6_borrow_0 {d : Nat} {o0 : Nat} {r1 : Nat} {x2 : Int32} {x3 : Int32} {w : q_Sm} {Q : s_Po} {X : s_Xo} (h : vX6_borrow_0 d o0 r1 x2 x3 w Q X) : s_Ex (d + 1) 0 mX6_borrow 0 [some (.ref (o0)), some (.ref (r1)), some (.int (x2)), some (.int (x3))] [] w Q X := by
  unfold vX6_borrow_0 at h
  obtain ⟨ho15, h⟩ := h
  obtain ⟨ho16, h⟩ := h
  obtain ⟨ho17, h⟩ := h
  refine s_blk [(.iload_n 3, 1, 0, 0), (.aload_n 1, 1, 0, 0), (.getfield 53, 3, 2, 13), (.iload_n 2, 1, 0, 0), (.iaload, 1, 0, 0), (.aload_n 0, 1, 0, 0), (.iload_n 2, 1, 0, 0)] 9 [some (.ref (o0)), some (.ref (r1)), some (.int (x2)), some (.int (x3))] [.int (x2), .ref (o0), .int (w.1 (r1 + 11) (Int32.toNatClampNeg x2)), .int (x3)] w [q_id 116 2 r1, q_id 116 14 (r1 + 11), vp_in x2 (q_sh (r1 + 11)).2] (by decide +kernel) (by refine qt_iload_n (x := x3) rfl ?_; refine qt_aload_n (r := r1) rfl ?_; refine qt_getR (r := r1 + 11) rfl rfl rfl ?_; refine qt_iload_n (x := x2) rfl ?_; refine qt_iald ?_; refine qt_aload_n (r := o0) rfl ?_; refine qt_iload_n (x := x2) rfl ?_; exact qt_z rfl rfl rfl rfl rfl) ⟨ho15, ho16, ho17⟩ ?_
  obtain ⟨hid, h⟩ := h
  refine s_callV (a := 0) (a' := 0) (As := [.int (x2)]) (id := o0) (st := [.int (w.1 (r1 + 11) (Int32.toNatClampNeg x2)), .int (x3)]) kX6_lent l_6_56 (by decide +kernel) hid rfl (Nat.le_of_ble_eq_true rfl) (s_mono h (s_I_of (fun v1 u2 h => ?_)) (fun _ _ h9 => h9))
  show s_Ex (d + 1) 0 mX6_borrow 12 [some (.ref (o0)), some (.ref (r1)), some (.int (x2)), some (.int (x3))] [.int (v1), .int (w.1 (r1 + 11) (Int32.toNatClampNeg x2)), .int (x3)] u2 Q X
  refine s_blk [(.isub, 1, 0, 0)] 13 [some (.ref (o0)), some (.ref (r1)), some (.int (x2)), some (.int (x3))] [.int ((w.1 (r1 + 11) (Int32.toNatClampNeg x2)) - v1), .int (x3)] u2 [] (by decide +kernel) (by refine qt_isub ?_; exact qt_z rfl rfl rfl rfl rfl) trivial ?_
  refine s_icmp (cd := .le) (off := 5) 18 (by decide +kernel) (by decide) (fun hc => ?_) (fun hc => ?_)
  · replace h := h.1 hc
    obtain ⟨ho5, h⟩ := h
    obtain ⟨ho6, h⟩ := h
    obtain ⟨ho7, h⟩ := h
    obtain ⟨ho8, h⟩ := h
    obtain ⟨ho9, h⟩ := h
    replace h := h _ rfl
    obtain ⟨ho10, h⟩ := h
    obtain ⟨ho11, h⟩ := h
    obtain ⟨ho12, h⟩ := h
    obtain ⟨ho13, h⟩ := h
    obtain ⟨ho14, h⟩ := h
    replace h := h _ rfl
    refine s_blk [(.aload_n 0, 1, 0, 0), (.getfield 11, 3, 6, 0), (.bipush 54, 2, 0, 0), (.iload_n 2, 1, 0, 0), (.iadd, 1, 0, 0), (.dup2, 1, 0, 0), (.iaload, 1, 0, 0), (.iload_n 3, 1, 0, 0), (.iadd, 1, 0, 0), (.iastore, 1, 0, 0), (.aload_n 0, 1, 0, 0), (.getfield 11, 3, 6, 0), (.bipush 50, 2, 0, 0), (.iload_n 2, 1, 0, 0), (.iadd, 1, 0, 0), (.dup2, 1, 0, 0), (.iaload, 1, 0, 0), (.iload_n 3, 1, 0, 0), (.iadd, 1, 0, 0), (.iastore, 1, 0, 0), (.iconst 1, 1, 0, 0)] 45 [some (.ref (o0)), some (.ref (r1)), some (.int (x2)), some (.int (x3))] [.int (1)] (q_wI (q_wI u2 (o0 + 1) (Int32.toNatClampNeg (54 + x2)) ((u2.1 (o0 + 1) (Int32.toNatClampNeg (54 + x2))) + x3)) (o0 + 1) (Int32.toNatClampNeg (50 + x2)) (((q_wI u2 (o0 + 1) (Int32.toNatClampNeg (54 + x2)) ((u2.1 (o0 + 1) (Int32.toNatClampNeg (54 + x2))) + x3)).1 (o0 + 1) (Int32.toNatClampNeg (50 + x2))) + x3)) [q_id 116 6 o0, q_id 116 14 (o0 + 1), vp_in (54 + x2) (q_sh (o0 + 1)).2, q_id 116 14 (o0 + 1), vp_in (54 + x2) (q_sh (o0 + 1)).2, q_id 116 6 o0, q_id 116 14 (o0 + 1), vp_in (50 + x2) (q_sh (o0 + 1)).2, q_id 116 14 (o0 + 1), vp_in (50 + x2) (q_sh (o0 + 1)).2] (by decide +kernel) (by refine qt_aload_n (r := o0) rfl ?_; refine qt_getR (r := o0 + 1) rfl rfl rfl ?_; refine qt_bipush qb_54 ?_; refine qt_iload_n (x := x2) rfl ?_; refine qt_iadd ?_; refine qt_dup2 ?_; refine qt_iald ?_; refine qt_iload_n (x := x3) rfl ?_; refine qt_iadd ?_; refine qt_iast ?_; refine qt_aload_n (r := o0) rfl ?_; refine qt_getR (r := o0 + 1) rfl rfl rfl ?_; refine qt_bipush qb_50 ?_; refine qt_iload_n (x := x2) rfl ?_; refine qt_iadd ?_; refine qt_dup2 ?_; refine qt_iald ?_; refine qt_iload_n (x := x3) rfl ?_; refine qt_iadd ?_; refine qt_iast ?_; refine qt_iconst qc_1 ?_; exact qt_z rfl rfl rfl rfl rfl) ⟨ho5, ho6, ho7, ho8, ho9, ho10, ho11, ho12, ho13, ho14⟩ ?_
    exact s_retI .boolean (by decide +kernel) rfl rfl h
  · replace h := h.2 hc
    refine s_blk [(.iconst 0, 1, 0, 0)] 17 [some (.ref (o0)), some (.ref (r1)), some (.int (x2)), some (.int (x3))] [.int (0)] u2 [] (by decide +kernel) (by refine qt_iconst qc_0 ?_; exact qt_z rfl rfl rfl rfl rfl) trivial ?_
    exact s_retI .boolean (by decide +kernel) rfl rfl h
theorem eX6_borrow {d : Nat} {o0 : Nat} {r1 : Nat} {x2 : Int32} {x3 : Int32} {w : q_Sm} {Q : s_Po} {X : s_Xo} (h : vX6_borrow_0 d o0 r1 x2 x3 w Q X) : s_Ev (d + 1) 0 mX6_borrow w [.ref (o0), .ref (r1), .int (x2), .int (x3)] Q X := s_of (by decide +kernel) rfl (Nat.le_of_ble_eq_true rfl) (xX6_borrow_0 h)
def vX6_handOn_0 (d : Nat) (o0 : Nat) (x1 : Int32) (x2 : Int32) (w : q_Sm) (Q : s_Po) (X : s_Xo) : Prop := q_id 116 6 o0 ∧ s_EvI d 0 mX6_owed w [.ref (o0), .int (x1)] (fun v1 u2 => ((v1 = 0) → Q (some (.int (0))) u2) ∧ (¬ (v1 = 0) → q_id 116 6 o0 ∧ s_EvI d 0 mX6_holder u2 [.ref (o0), .int (x1)] (fun v3 u4 => ((¬ v3 = x2) → (q_id 116 6 o0) ∧ (q_id 116 14 (o0 + 1)) ∧ (vp_in (10 + x1) (q_sh (o0 + 1)).2) ∧ ∀ w_5 : q_Sm, w_5 = q_wI u4 (o0 + 1) (Int32.toNatClampNeg (10 + x1)) x2 → Q (some (.int (1))) w_5) ∧ (¬ (¬ v3 = x2) → Q (some (.int (0))) u4)) X)) X
theorem xX6_handOn_0 {d : Nat} {o0 : Nat} {x1 : Int32} {x2 : Int32} {w : q_Sm} {Q : s_Po} {X : s_Xo} (h : vX6_handOn_0 d o0 x1 x2 w Q X) : s_Ex (d + 1) 0 mX6_handOn 0 [some (.ref (o0)), some (.int (x1)), some (.int (x2))] [] w Q X := by
  unfold vX6_handOn_0 at h
  refine s_blk [(.aload_n 0, 1, 0, 0), (.iload_n 1, 1, 0, 0)] 2 [some (.ref (o0)), some (.int (x1)), some (.int (x2))] [.int (x1), .ref (o0)] w [] (by decide +kernel) (by refine qt_aload_n (r := o0) rfl ?_; refine qt_iload_n (x := x1) rfl ?_; exact qt_z rfl rfl rfl rfl rfl) trivial ?_
  obtain ⟨hid, h⟩ := h
  refine s_callV (a := 0) (a' := 0) (As := [.int (x1)]) (id := o0) (st := []) kX6_owed l_6_46 (by decide +kernel) hid rfl (Nat.le_of_ble_eq_true rfl) (s_mono h (s_I_of (fun v1 u2 h => ?_)) (fun _ _ h9 => h9))
  show s_Ex (d + 1) 0 mX6_handOn 5 [some (.ref (o0)), some (.int (x1)), some (.int (x2))] [.int (v1)] u2 Q X
  refine s_if (cd := .eq) (off := 12) 17 (by decide +kernel) (by decide) (fun hc => ?_) (fun hc => ?_)
  · replace h := h.1 hc
    refine s_blk [(.iconst 0, 1, 0, 0)] 18 [some (.ref (o0)), some (.int (x1)), some (.int (x2))] [.int (0)] u2 [] (by decide +kernel) (by refine qt_iconst qc_0 ?_; exact qt_z rfl rfl rfl rfl rfl) trivial ?_
    exact s_retI .boolean (by decide +kernel) rfl rfl h
  · replace h := h.2 hc
    refine s_blk [(.aload_n 0, 1, 0, 0), (.iload_n 1, 1, 0, 0)] 10 [some (.ref (o0)), some (.int (x1)), some (.int (x2))] [.int (x1), .ref (o0)] u2 [] (by decide +kernel) (by refine qt_aload_n (r := o0) rfl ?_; refine qt_iload_n (x := x1) rfl ?_; exact qt_z rfl rfl rfl rfl rfl) trivial ?_
    obtain ⟨hid, h⟩ := h
    refine s_callV (a := 0) (a' := 0) (As := [.int (x1)]) (id := o0) (st := []) kX6_holder l_6_59 (by decide +kernel) hid rfl (Nat.le_of_ble_eq_true rfl) (s_mono h (s_I_of (fun v3 u4 h => ?_)) (fun _ _ h9 => h9))
    show s_Ex (d + 1) 0 mX6_handOn 13 [some (.ref (o0)), some (.int (x1)), some (.int (x2))] [.int (v3)] u4 Q X
    refine s_blk [(.iload_n 2, 1, 0, 0)] 14 [some (.ref (o0)), some (.int (x1)), some (.int (x2))] [.int (x2), .int (v3)] u4 [] (by decide +kernel) (by refine qt_iload_n (x := x2) rfl ?_; exact qt_z rfl rfl rfl rfl rfl) trivial ?_
    refine s_icmp (cd := .ne) (off := 5) 19 (by decide +kernel) (by decide) (fun hc => ?_) (fun hc => ?_)
    · replace h := h.1 hc
      obtain ⟨ho6, h⟩ := h
      obtain ⟨ho7, h⟩ := h
      obtain ⟨ho8, h⟩ := h
      replace h := h _ rfl
      refine s_blk [(.aload_n 0, 1, 0, 0), (.getfield 11, 3, 6, 0), (.bipush 10, 2, 0, 0), (.iload_n 1, 1, 0, 0), (.iadd, 1, 0, 0), (.iload_n 2, 1, 0, 0), (.iastore, 1, 0, 0), (.iconst 1, 1, 0, 0)] 30 [some (.ref (o0)), some (.int (x1)), some (.int (x2))] [.int (1)] (q_wI u4 (o0 + 1) (Int32.toNatClampNeg (10 + x1)) x2) [q_id 116 6 o0, q_id 116 14 (o0 + 1), vp_in (10 + x1) (q_sh (o0 + 1)).2] (by decide +kernel) (by refine qt_aload_n (r := o0) rfl ?_; refine qt_getR (r := o0 + 1) rfl rfl rfl ?_; refine qt_bipush qb_10 ?_; refine qt_iload_n (x := x1) rfl ?_; refine qt_iadd ?_; refine qt_iload_n (x := x2) rfl ?_; refine qt_iast ?_; refine qt_iconst qc_1 ?_; exact qt_z rfl rfl rfl rfl rfl) ⟨ho6, ho7, ho8⟩ ?_
      exact s_retI .boolean (by decide +kernel) rfl rfl h
    · replace h := h.2 hc
      refine s_blk [(.iconst 0, 1, 0, 0)] 18 [some (.ref (o0)), some (.int (x1)), some (.int (x2))] [.int (0)] u4 [] (by decide +kernel) (by refine qt_iconst qc_0 ?_; exact qt_z rfl rfl rfl rfl rfl) trivial ?_
      exact s_retI .boolean (by decide +kernel) rfl rfl h
theorem eX6_handOn {d : Nat} {o0 : Nat} {x1 : Int32} {x2 : Int32} {w : q_Sm} {Q : s_Po} {X : s_Xo} (h : vX6_handOn_0 d o0 x1 x2 w Q X) : s_Ev (d + 1) 0 mX6_handOn w [.ref (o0), .int (x1), .int (x2)] Q X := s_of (by decide +kernel) rfl (Nat.le_of_ble_eq_true rfl) (xX6_handOn_0 h)
def vX6_pass_0 (d : Nat) (o0 : Nat) (r1 : Nat) (r2 : Nat) (w : q_Sm) (Q : s_Po) (X : s_Xo) : Prop := q_id 116 6 o0 ∧ s_EvI d 0 mX6_today w [.ref (o0)] (fun v1 u2 => ((v1 < 200) → s_Ex (d + 1) 0 mX6_pass 14 [some (.ref (o0)), some (.ref (r1)), some (.ref (r2)), some (.int (0)), none] [] u2 Q X) ∧ (¬ (v1 < 200) → Q (some (.int (0))) u2)) X
def vX6_pass_14 (d : Nat) (o0 : Nat) (r1 : Nat) (r2 : Nat) (x3 : Int32) (w : q_Sm) (Q : s_Po) (X : s_Xo) : Prop := (q_id 116 2 r1) ∧ (((w.1 r1 3) ≤ x3) → (q_id 116 6 o0) ∧ (q_id 116 14 (o0 + 1)) ∧ (vp_in 58 (q_sh (o0 + 1)).2) ∧ (q_id 116 14 (o0 + 1)) ∧ (vp_in 58 (q_sh (o0 + 1)).2) ∧ ∀ w_3 : q_Sm, w_3 = q_wI w (o0 + 1) (Int32.toNatClampNeg 58) ((w.1 (o0 + 1) (Int32.toNatClampNeg 58)) + 1) → q_id 116 6 o0 ∧ s_EvV d 0 mX6_takeLight w_3 [.ref (o0), .ref (r1)] (fun u5 => Q (some (.int (1))) u5) X) ∧ (¬ ((w.1 r1 3) ≤ x3) → q_id 116 6 o0 ∧ s_EvI d 0 mX6_owed w [.ref (o0), .int (x3)] (fun v11 u12 => ((v11 ≤ 0) → (q_id 116 6 o0) ∧ (q_id 116 14 (o0 + 1)) ∧ (vp_in (30 + x3) (q_sh (o0 + 1)).2) ∧ ∀ w_13 : q_Sm, w_13 = q_wI u12 (o0 + 1) (Int32.toNatClampNeg (30 + x3)) 0 → s_Ex (d + 1) 0 mX6_pass 14 [some (.ref (o0)), some (.ref (r1)), some (.ref (r2)), some (.int (x3 + 1)), none] [] w_13 Q X) ∧ (¬ (v11 ≤ 0) → q_id 116 6 o0 ∧ s_EvI d 0 mX6_owed u12 [.ref (o0), .int (x3)] (fun v17 u18 => q_id 116 6 o0 ∧ s_EvI d 0 mX6_paidToday u18 [.ref (o0), .int (x3)] (fun v19 u20 => q_id 116 6 o0 ∧ s_EvI d 0 mX6_today u20 [.ref (o0)] (fun v21 u22 => q_id 116 6 o0 ∧ s_EvI d 0 mX6_growthOf u22 [.ref (o0), .int (x3), .int (v17), .int (v19), .int (v21), .ref (r1), .ref (r2)] (fun v23 u24 => (q_id 116 6 o0) ∧ q_id 116 6 o0 ∧ s_EvI d 0 mX6_owed u24 [.ref (o0), .int (x3)] (fun v25 u26 => s_EvI d 0 mK_min u26 [.int (9999), .int (v25 + v23)] (fun v27 u28 => (q_id 116 14 (o0 + 1)) ∧ (vp_in (0 + x3) (q_sh (o0 + 1)).2) ∧ ∀ w_29 : q_Sm, w_29 = q_wI u28 (o0 + 1) (Int32.toNatClampNeg (0 + x3)) v27 → q_id 116 6 o0 ∧ s_EvI d 0 mX6_today w_29 [.ref (o0)] (fun v30 u31 => (q_id 116 2 r1) ∧ (q_id 116 14 (r1 + 7)) ∧ (vp_in x3 (q_sh (r1 + 7)).2) ∧ ((¬ v30 = (u31.1 (r1 + 7) (Int32.toNatClampNeg x3))) → (q_id 116 6 o0) ∧ (q_id 116 14 (o0 + 1)) ∧ (vp_in (30 + x3) (q_sh (o0 + 1)).2) ∧ ∀ w_32 : q_Sm, w_32 = q_wI u31 (o0 + 1) (Int32.toNatClampNeg (30 + x3)) 0 → s_Ex (d + 1) 0 mX6_pass 14 [some (.ref (o0)), some (.ref (r1)), some (.ref (r2)), some (.int (x3 + 1)), none] [] w_32 Q X) ∧ (¬ (¬ v30 = (u31.1 (r1 + 7) (Int32.toNatClampNeg x3))) → (q_id 116 6 o0) ∧ (q_id 116 14 (o0 + 1)) ∧ (vp_in (40 + x3) (q_sh (o0 + 1)).2) ∧ ∀ w_36 : q_Sm, w_36 = q_wI u31 (o0 + 1) (Int32.toNatClampNeg (40 + x3)) 1 → (q_id 116 6 o0) ∧ (q_id 116 14 (o0 + 1)) ∧ (vp_in (30 + x3) (q_sh (o0 + 1)).2) ∧ ∀ w_37 : q_Sm, w_37 = q_wI w_36 (o0 + 1) (Int32.toNatClampNeg (30 + x3)) 0 → s_Ex (d + 1) 0 mX6_pass 14 [some (.ref (o0)), some (.ref (r1)), some (.ref (r2)), some (.int (x3 + 1)), none] [] w_37 Q X)) X) X) X) X) X) X) X)) X)
theorem xX6_pass_0 {d : Nat} {o0 : Nat} {r1 : Nat} {r2 : Nat} {w : q_Sm} {Q : s_Po} {X : s_Xo} (h : vX6_pass_0 d o0 r1 r2 w Q X) : s_Ex (d + 1) 0 mX6_pass 0 [some (.ref (o0)), some (.ref (r1)), some (.ref (r2)), none, none] [] w Q X := by
  unfold vX6_pass_0 at h
  refine s_blk [(.aload_n 0, 1, 0, 0)] 1 [some (.ref (o0)), some (.ref (r1)), some (.ref (r2)), none, none] [.ref (o0)] w [] (by decide +kernel) (by refine qt_aload_n (r := o0) rfl ?_; exact qt_z rfl rfl rfl rfl rfl) trivial ?_
  obtain ⟨hid, h⟩ := h
  refine s_callV (a := 0) (a' := 0) (As := []) (id := o0) (st := []) kX6_today l_6_62 (by decide +kernel) hid rfl (Nat.le_of_ble_eq_true rfl) (s_mono h (s_I_of (fun v1 u2 h => ?_)) (fun _ _ h9 => h9))
  show s_Ex (d + 1) 0 mX6_pass 4 [some (.ref (o0)), some (.ref (r1)), some (.ref (r2)), none, none] [.int (v1)] u2 Q X
  refine s_blk [(.sipush 200, 3, 0, 0)] 7 [some (.ref (o0)), some (.ref (r1)), some (.ref (r2)), none, none] [.int (200), .int (v1)] u2 [] (by decide +kernel) (by refine qt_sipush qs_200 ?_; exact qt_z rfl rfl rfl rfl rfl) trivial ?_
  refine s_icmp (cd := .lt) (off := 5) 12 (by decide +kernel) (by decide) (fun hc => ?_) (fun hc => ?_)
  · replace h := h.1 hc
    refine s_blk [(.iconst 0, 1, 0, 0), (.istore_n 3, 1, 0, 0)] 14 [some (.ref (o0)), some (.ref (r1)), some (.ref (r2)), some (.int (0)), none] [] u2 [] (by decide +kernel) (by refine qt_iconst qc_0 ?_; refine qt_istore_n (L' := [some (.ref (o0)), some (.ref (r1)), some (.ref (r2)), some (.int (0)), none]) rfl ?_; exact qt_z rfl rfl rfl rfl rfl) trivial ?_
    exact h
  · replace h := h.2 hc
    refine s_blk [(.iconst 0, 1, 0, 0)] 11 [some (.ref (o0)), some (.ref (r1)), some (.ref (r2)), none, none] [.int (0)] u2 [] (by decide +kernel) (by refine qt_iconst qc_0 ?_; exact qt_z rfl rfl rfl rfl rfl) trivial ?_
    exact s_retI .boolean (by decide +kernel) rfl rfl h
theorem xX6_pass_14 {d : Nat} {o0 : Nat} {r1 : Nat} {r2 : Nat} {x3 : Int32} {w : q_Sm} {Q : s_Po} {X : s_Xo} (h : vX6_pass_14 d o0 r1 r2 x3 w Q X) : s_Ex (d + 1) 0 mX6_pass 14 [some (.ref (o0)), some (.ref (r1)), some (.ref (r2)), some (.int (x3)), none] [] w Q X := by
  unfold vX6_pass_14 at h
  obtain ⟨ho50, h⟩ := h
  refine s_blk [(.iload_n 3, 1, 0, 0), (.aload_n 1, 1, 0, 0), (.getfield 21, 3, 2, 3)] 19 [some (.ref (o0)), some (.ref (r1)), some (.ref (r2)), some (.int (x3)), none] [.int (w.1 r1 3), .int (x3)] w [q_id 116 2 r1] (by decide +kernel) (by refine qt_iload_n (x := x3) rfl ?_; refine qt_aload_n (r := r1) rfl ?_; refine qt_getI rfl rfl ?_; exact qt_z rfl rfl rfl rfl rfl) ho50 ?_
  refine s_icmp (cd := .ge) (off := 95) 114 (by decide +kernel) (by decide) (fun hc => ?_) (fun hc => ?_)
  · replace h := h.1 hc
    obtain ⟨ho6, h⟩ := h
    obtain ⟨ho7, h⟩ := h
    obtain ⟨ho8, h⟩ := h
    obtain ⟨ho9, h⟩ := h
    obtain ⟨ho10, h⟩ := h
    replace h := h _ rfl
    refine s_blk [(.aload_n 0, 1, 0, 0), (.getfield 11, 3, 6, 0), (.bipush 58, 2, 0, 0), (.dup2, 1, 0, 0), (.iaload, 1, 0, 0), (.iconst 1, 1, 0, 0), (.iadd, 1, 0, 0), (.iastore, 1, 0, 0), (.aload_n 0, 1, 0, 0), (.aload_n 1, 1, 0, 0)] 127 [some (.ref (o0)), some (.ref (r1)), some (.ref (r2)), some (.int (x3)), none] [.ref (r1), .ref (o0)] (q_wI w (o0 + 1) (Int32.toNatClampNeg 58) ((w.1 (o0 + 1) (Int32.toNatClampNeg 58)) + 1)) [q_id 116 6 o0, q_id 116 14 (o0 + 1), vp_in 58 (q_sh (o0 + 1)).2, q_id 116 14 (o0 + 1), vp_in 58 (q_sh (o0 + 1)).2] (by decide +kernel) (by refine qt_aload_n (r := o0) rfl ?_; refine qt_getR (r := o0 + 1) rfl rfl rfl ?_; refine qt_bipush qb_58 ?_; refine qt_dup2 ?_; refine qt_iald ?_; refine qt_iconst qc_1 ?_; refine qt_iadd ?_; refine qt_iast ?_; refine qt_aload_n (r := o0) rfl ?_; refine qt_aload_n (r := r1) rfl ?_; exact qt_z rfl rfl rfl rfl rfl) ⟨ho6, ho7, ho8, ho9, ho10⟩ ?_
    obtain ⟨hid, h⟩ := h
    refine s_callV (a := 0) (a' := 0) (As := [.ref (r1)]) (id := o0) (st := []) kX6_takeLight l_6_33 (by decide +kernel) hid rfl (Nat.le_of_ble_eq_true rfl) (s_mono h (s_V_of (fun u5 h => ?_)) (fun _ _ h9 => h9))
    show s_Ex (d + 1) 0 mX6_pass 130 [some (.ref (o0)), some (.ref (r1)), some (.ref (r2)), some (.int (x3)), none] [] u5 Q X
    refine s_blk [(.iconst 1, 1, 0, 0)] 131 [some (.ref (o0)), some (.ref (r1)), some (.ref (r2)), some (.int (x3)), none] [.int (1)] u5 [] (by decide +kernel) (by refine qt_iconst qc_1 ?_; exact qt_z rfl rfl rfl rfl rfl) trivial ?_
    exact s_retI .boolean (by decide +kernel) rfl rfl h
  · replace h := h.2 hc
    refine s_blk [(.aload_n 0, 1, 0, 0), (.iload_n 3, 1, 0, 0)] 24 [some (.ref (o0)), some (.ref (r1)), some (.ref (r2)), some (.int (x3)), none] [.int (x3), .ref (o0)] w [] (by decide +kernel) (by refine qt_aload_n (r := o0) rfl ?_; refine qt_iload_n (x := x3) rfl ?_; exact qt_z rfl rfl rfl rfl rfl) trivial ?_
    obtain ⟨hid, h⟩ := h
    refine s_callV (a := 0) (a' := 0) (As := [.int (x3)]) (id := o0) (st := []) kX6_owed l_6_46 (by decide +kernel) hid rfl (Nat.le_of_ble_eq_true rfl) (s_mono h (s_I_of (fun v11 u12 h => ?_)) (fun _ _ h9 => h9))
    show s_Ex (d + 1) 0 mX6_pass 27 [some (.ref (o0)), some (.ref (r1)), some (.ref (r2)), some (.int (x3)), none] [.int (v11)] u12 Q X
    refine s_if (cd := .le) (off := 71) 98 (by decide +kernel) (by decide) (fun hc => ?_) (fun hc => ?_)
    · replace h := h.1 hc
      obtain ⟨ho14, h⟩ := h
      obtain ⟨ho15, h⟩ := h
      obtain ⟨ho16, h⟩ := h
      replace h := h _ rfl
      refine s_blk [(.aload_n 0, 1, 0, 0), (.getfield 11, 3, 6, 0), (.bipush 30, 2, 0, 0), (.iload_n 3, 1, 0, 0), (.iadd, 1, 0, 0), (.iconst 0, 1, 0, 0), (.iastore, 1, 0, 0), (.iinc 3 1, 3, 0, 0), (.goto (-97), 3, 14, 0)] 14 [some (.ref (o0)), some (.ref (r1)), some (.ref (r2)), some (.int (x3 + 1)), none] [] (q_wI u12 (o0 + 1) (Int32.toNatClampNeg (30 + x3)) 0) [q_id 116 6 o0, q_id 116 14 (o0 + 1), vp_in (30 + x3) (q_sh (o0 + 1)).2] (by decide +kernel) (by refine qt_aload_n (r := o0) rfl ?_; refine qt_getR (r := o0 + 1) rfl rfl rfl ?_; refine qt_bipush qb_30 ?_; refine qt_iload_n (x := x3) rfl ?_; refine qt_iadd ?_; refine qt_iconst qc_0 ?_; refine qt_iast ?_; refine qt_iinc (x := x3) (L' := [some (.ref (o0)), some (.ref (r1)), some (.ref (r2)), some (.int (x3 + 1)), none]) rfl qc_1 rfl ?_; refine qt_goto ?_; exact qt_z rfl rfl rfl rfl rfl) ⟨ho14, ho15, ho16⟩ ?_
      exact h
    · replace h := h.2 hc
      refine s_blk [(.aload_n 0, 1, 0, 0), (.iload_n 3, 1, 0, 0), (.aload_n 0, 1, 0, 0), (.iload_n 3, 1, 0, 0)] 34 [some (.ref (o0)), some (.ref (r1)), some (.ref (r2)), some (.int (x3)), none] [.int (x3), .ref (o0), .int (x3), .ref (o0)] u12 [] (by decide +kernel) (by refine qt_aload_n (r := o0) rfl ?_; refine qt_iload_n (x := x3) rfl ?_; refine qt_aload_n (r := o0) rfl ?_; refine qt_iload_n (x := x3) rfl ?_; exact qt_z rfl rfl rfl rfl rfl) trivial ?_
      obtain ⟨hid, h⟩ := h
      refine s_callV (a := 0) (a' := 0) (As := [.int (x3)]) (id := o0) (st := [.int (x3), .ref (o0)]) kX6_owed l_6_46 (by decide +kernel) hid rfl (Nat.le_of_ble_eq_true rfl) (s_mono h (s_I_of (fun v17 u18 h => ?_)) (fun _ _ h9 => h9))
      show s_Ex (d + 1) 0 mX6_pass 37 [some (.ref (o0)), some (.ref (r1)), some (.ref (r2)), some (.int (x3)), none] [.int (v17), .int (x3), .ref (o0)] u18 Q X
      refine s_blk [(.aload_n 0, 1, 0, 0), (.iload_n 3, 1, 0, 0)] 39 [some (.ref (o0)), some (.ref (r1)), some (.ref (r2)), some (.int (x3)), none] [.int (x3), .ref (o0), .int (v17), .int (x3), .ref (o0)] u18 [] (by decide +kernel) (by refine qt_aload_n (r := o0) rfl ?_; refine qt_iload_n (x := x3) rfl ?_; exact qt_z rfl rfl rfl rfl rfl) trivial ?_
      obtain ⟨hid, h⟩ := h
      refine s_callV (a := 0) (a' := 0) (As := [.int (x3)]) (id := o0) (st := [.int (v17), .int (x3), .ref (o0)]) kX6_paidToday l_6_66 (by decide +kernel) hid rfl (Nat.le_of_ble_eq_true rfl) (s_mono h (s_I_of (fun v19 u20 h => ?_)) (fun _ _ h9 => h9))
      show s_Ex (d + 1) 0 mX6_pass 42 [some (.ref (o0)), some (.ref (r1)), some (.ref (r2)), some (.int (x3)), none] [.int (v19), .int (v17), .int (x3), .ref (o0)] u20 Q X
      refine s_blk [(.aload_n 0, 1, 0, 0)] 43 [some (.ref (o0)), some (.ref (r1)), some (.ref (r2)), some (.int (x3)), none] [.ref (o0), .int (v19), .int (v17), .int (x3), .ref (o0)] u20 [] (by decide +kernel) (by refine qt_aload_n (r := o0) rfl ?_; exact qt_z rfl rfl rfl rfl rfl) trivial ?_
      obtain ⟨hid, h⟩ := h
      refine s_callV (a := 0) (a' := 0) (As := []) (id := o0) (st := [.int (v19), .int (v17), .int (x3), .ref (o0)]) kX6_today l_6_62 (by decide +kernel) hid rfl (Nat.le_of_ble_eq_true rfl) (s_mono h (s_I_of (fun v21 u22 h => ?_)) (fun _ _ h9 => h9))
      show s_Ex (d + 1) 0 mX6_pass 46 [some (.ref (o0)), some (.ref (r1)), some (.ref (r2)), some (.int (x3)), none] [.int (v21), .int (v19), .int (v17), .int (x3), .ref (o0)] u22 Q X
      refine s_blk [(.aload_n 1, 1, 0, 0), (.aload_n 2, 1, 0, 0)] 48 [some (.ref (o0)), some (.ref (r1)), some (.ref (r2)), some (.int (x3)), none] [.ref (r2), .ref (r1), .int (v21), .int (v19), .int (v17), .int (x3), .ref (o0)] u22 [] (by decide +kernel) (by refine qt_aload_n (r := r1) rfl ?_; refine qt_aload_n (r := r2) rfl ?_; exact qt_z rfl rfl rfl rfl rfl) trivial ?_
      obtain ⟨hid, h⟩ := h
      refine s_callV (a := 0) (a' := 0) (As := [.int (x3), .int (v17), .int (v19), .int (v21), .ref (r1), .ref (r2)]) (id := o0) (st := []) kX6_growthOf l_6_69 (by decide +kernel) hid rfl (Nat.le_of_ble_eq_true rfl) (s_mono h (s_I_of (fun v23 u24 h => ?_)) (fun _ _ h9 => h9))
      show s_Ex (d + 1) 0 mX6_pass 51 [some (.ref (o0)), some (.ref (r1)), some (.ref (r2)), some (.int (x3)), none] [.int (v23)] u24 Q X
      obtain ⟨ho49, h⟩ := h
      refine s_blk [(.istore 4, 2, 0, 0), (.aload_n 0, 1, 0, 0), (.getfield 11, 3, 6, 0), (.iconst 0, 1, 0, 0), (.iload_n 3, 1, 0, 0), (.iadd, 1, 0, 0), (.sipush 9999, 3, 0, 0), (.aload_n 0, 1, 0, 0), (.iload_n 3, 1, 0, 0)] 65 [some (.ref (o0)), some (.ref (r1)), some (.ref (r2)), some (.int (x3)), some (.int (v23))] [.int (x3), .ref (o0), .int (9999), .int (0 + x3), .ref (o0 + 1)] u24 [q_id 116 6 o0] (by decide +kernel) (by refine qt_istore (L' := [some (.ref (o0)), some (.ref (r1)), some (.ref (r2)), some (.int (x3)), some (.int (v23))]) rfl ?_; refine qt_aload_n (r := o0) rfl ?_; refine qt_getR (r := o0 + 1) rfl rfl rfl ?_; refine qt_iconst qc_0 ?_; refine qt_iload_n (x := x3) rfl ?_; refine qt_iadd ?_; refine qt_sipush qs_9999 ?_; refine qt_aload_n (r := o0) rfl ?_; refine qt_iload_n (x := x3) rfl ?_; exact qt_z rfl rfl rfl rfl rfl) ho49 ?_
      obtain ⟨hid, h⟩ := h
      refine s_callV (a := 0) (a' := 0) (As := [.int (x3)]) (id := o0) (st := [.int (9999), .int (0 + x3), .ref (o0 + 1)]) kX6_owed l_6_46 (by decide +kernel) hid rfl (Nat.le_of_ble_eq_true rfl) (s_mono h (s_I_of (fun v25 u26 h => ?_)) (fun _ _ h9 => h9))
      show s_Ex (d + 1) 0 mX6_pass 68 [some (.ref (o0)), some (.ref (r1)), some (.ref (r2)), some (.int (x3)), some (.int (v23))] [.int (v25), .int (9999), .int (0 + x3), .ref (o0 + 1)] u26 Q X
      refine s_blk [(.iload 4, 2, 0, 0), (.iadd, 1, 0, 0)] 71 [some (.ref (o0)), some (.ref (r1)), some (.ref (r2)), some (.int (x3)), some (.int (v23))] [.int (v25 + v23), .int (9999), .int (0 + x3), .ref (o0 + 1)] u26 [] (by decide +kernel) (by refine qt_iload (x := v23) rfl ?_; refine qt_iadd ?_; exact qt_z rfl rfl rfl rfl rfl) trivial ?_
      refine s_callS (a := 0) (a' := 0) (As := [.int (9999), .int (v25 + v23)]) (st := [.int (0 + x3), .ref (o0 + 1)]) kK_min l_6_73 (by decide +kernel) rfl (Nat.le_of_ble_eq_true rfl) (s_mono h (s_I_of (fun v27 u28 h => ?_)) (fun _ _ h9 => h9))
      show s_Ex (d + 1) 0 mX6_pass 74 [some (.ref (o0)), some (.ref (r1)), some (.ref (r2)), some (.int (x3)), some (.int (v23))] [.int (v27), .int (0 + x3), .ref (o0 + 1)] u28 Q X
      obtain ⟨ho47, h⟩ := h
      obtain ⟨ho48, h⟩ := h
      replace h := h _ rfl
      refine s_blk [(.iastore, 1, 0, 0), (.aload_n 0, 1, 0, 0)] 76 [some (.ref (o0)), some (.ref (r1)), some (.ref (r2)), some (.int (x3)), some (.int (v23))] [.ref (o0)] (q_wI u28 (o0 + 1) (Int32.toNatClampNeg (0 + x3)) v27) [q_id 116 14 (o0 + 1), vp_in (0 + x3) (q_sh (o0 + 1)).2] (by decide +kernel) (by refine qt_iast ?_; refine qt_aload_n (r := o0) rfl ?_; exact qt_z rfl rfl rfl rfl rfl) ⟨ho47, ho48⟩ ?_
      obtain ⟨hid, h⟩ := h
      refine s_callV (a := 0) (a' := 0) (As := []) (id := o0) (st := []) kX6_today l_6_62 (by decide +kernel) hid rfl (Nat.le_of_ble_eq_true rfl) (s_mono h (s_I_of (fun v30 u31 h => ?_)) (fun _ _ h9 => h9))
      show s_Ex (d + 1) 0 mX6_pass 79 [some (.ref (o0)), some (.ref (r1)), some (.ref (r2)), some (.int (x3)), some (.int (v23))] [.int (v30)] u31 Q X
      obtain ⟨ho44, h⟩ := h
      obtain ⟨ho45, h⟩ := h
      obtain ⟨ho46, h⟩ := h
      refine s_blk [(.aload_n 1, 1, 0, 0), (.getfield 79, 3, 2, 8), (.iload_n 3, 1, 0, 0), (.iaload, 1, 0, 0)] 85 [some (.ref (o0)), some (.ref (r1)), some (.ref (r2)), some (.int (x3)), some (.int (v23))] [.int (u31.1 (r1 + 7) (Int32.toNatClampNeg x3)), .int (v30)] u31 [q_id 116 2 r1, q_id 116 14 (r1 + 7), vp_in x3 (q_sh (r1 + 7)).2] (by decide +kernel) (by refine qt_aload_n (r := r1) rfl ?_; refine qt_getR (r := r1 + 7) rfl rfl rfl ?_; refine qt_iload_n (x := x3) rfl ?_; refine qt_iald ?_; exact qt_z rfl rfl rfl rfl rfl) ⟨ho44, ho45, ho46⟩ ?_
      refine s_icmp (cd := .ne) (off := 13) 98 (by decide +kernel) (by decide) (fun hc => ?_) (fun hc => ?_)
      · replace h := h.1 hc
        obtain ⟨ho33, h⟩ := h
        obtain ⟨ho34, h⟩ := h
        obtain ⟨ho35, h⟩ := h
        replace h := h _ rfl
        refine s_blk [(.aload_n 0, 1, 0, 0), (.getfield 11, 3, 6, 0), (.bipush 30, 2, 0, 0), (.iload_n 3, 1, 0, 0), (.iadd, 1, 0, 0), (.iconst 0, 1, 0, 0), (.iastore, 1, 0, 0), (.iinc 3 1, 3, 0, 0), (.goto (-97), 3, 14, 0), (.nop, 0, 4, 0)] 14 [some (.ref (o0)), some (.ref (r1)), some (.ref (r2)), some (.int (x3 + 1)), none] [] (q_wI u31 (o0 + 1) (Int32.toNatClampNeg (30 + x3)) 0) [q_id 116 6 o0, q_id 116 14 (o0 + 1), vp_in (30 + x3) (q_sh (o0 + 1)).2] (by decide +kernel) (by refine qt_aload_n (r := o0) rfl ?_; refine qt_getR (r := o0 + 1) rfl rfl rfl ?_; refine qt_bipush qb_30 ?_; refine qt_iload_n (x := x3) rfl ?_; refine qt_iadd ?_; refine qt_iconst qc_0 ?_; refine qt_iast ?_; refine qt_iinc (x := x3) (L' := [some (.ref (o0)), some (.ref (r1)), some (.ref (r2)), some (.int (x3 + 1)), some (.int (v23))]) rfl qc_1 rfl ?_; refine qt_goto ?_; refine qt_nop (L' := [some (.ref (o0)), some (.ref (r1)), some (.ref (r2)), some (.int (x3 + 1)), none]) rfl ?_; exact qt_z rfl rfl rfl rfl rfl) ⟨ho33, ho34, ho35⟩ ?_
        exact h
      · replace h := h.2 hc
        obtain ⟨ho38, h⟩ := h
        obtain ⟨ho39, h⟩ := h
        obtain ⟨ho40, h⟩ := h
        replace h := h _ rfl
        obtain ⟨ho41, h⟩ := h
        obtain ⟨ho42, h⟩ := h
        obtain ⟨ho43, h⟩ := h
        replace h := h _ rfl
        refine s_blk [(.aload_n 0, 1, 0, 0), (.getfield 11, 3, 6, 0), (.bipush 40, 2, 0, 0), (.iload_n 3, 1, 0, 0), (.iadd, 1, 0, 0), (.iconst 1, 1, 0, 0), (.iastore, 1, 0, 0), (.aload_n 0, 1, 0, 0), (.getfield 11, 3, 6, 0), (.bipush 30, 2, 0, 0), (.iload_n 3, 1, 0, 0), (.iadd, 1, 0, 0), (.iconst 0, 1, 0, 0), (.iastore, 1, 0, 0), (.iinc 3 1, 3, 0, 0), (.goto (-97), 3, 14, 0), (.nop, 0, 4, 0)] 14 [some (.ref (o0)), some (.ref (r1)), some (.ref (r2)), some (.int (x3 + 1)), none] [] (q_wI (q_wI u31 (o0 + 1) (Int32.toNatClampNeg (40 + x3)) 1) (o0 + 1) (Int32.toNatClampNeg (30 + x3)) 0) [q_id 116 6 o0, q_id 116 14 (o0 + 1), vp_in (40 + x3) (q_sh (o0 + 1)).2, q_id 116 6 o0, q_id 116 14 (o0 + 1), vp_in (30 + x3) (q_sh (o0 + 1)).2] (by decide +kernel) (by refine qt_aload_n (r := o0) rfl ?_; refine qt_getR (r := o0 + 1) rfl rfl rfl ?_; refine qt_bipush qb_40 ?_; refine qt_iload_n (x := x3) rfl ?_; refine qt_iadd ?_; refine qt_iconst qc_1 ?_; refine qt_iast ?_; refine qt_aload_n (r := o0) rfl ?_; refine qt_getR (r := o0 + 1) rfl rfl rfl ?_; refine qt_bipush qb_30 ?_; refine qt_iload_n (x := x3) rfl ?_; refine qt_iadd ?_; refine qt_iconst qc_0 ?_; refine qt_iast ?_; refine qt_iinc (x := x3) (L' := [some (.ref (o0)), some (.ref (r1)), some (.ref (r2)), some (.int (x3 + 1)), some (.int (v23))]) rfl qc_1 rfl ?_; refine qt_goto ?_; refine qt_nop (L' := [some (.ref (o0)), some (.ref (r1)), some (.ref (r2)), some (.int (x3 + 1)), none]) rfl ?_; exact qt_z rfl rfl rfl rfl rfl) ⟨ho38, ho39, ho40, ho41, ho42, ho43⟩ ?_
        exact h
theorem eX6_pass {d : Nat} {o0 : Nat} {r1 : Nat} {r2 : Nat} {w : q_Sm} {Q : s_Po} {X : s_Xo} (h : vX6_pass_0 d o0 r1 r2 w Q X) : s_Ev (d + 1) 0 mX6_pass w [.ref (o0), .ref (r1), .ref (r2)] Q X := s_of (by decide +kernel) rfl (Nat.le_of_ble_eq_true rfl) (xX6_pass_0 h)
def vX6_takeLight_0 (d : Nat) (o0 : Nat) (r1 : Nat) (w : q_Sm) (Q : s_Po) (X : s_Xo) : Prop := s_Ex (d + 1) 0 mX6_takeLight 2 [some (.ref (o0)), some (.ref (r1)), some (.int (0))] [] w Q X
def vX6_takeLight_2 (d : Nat) (o0 : Nat) (r1 : Nat) (x2 : Int32) (w : q_Sm) (Q : s_Po) (X : s_Xo) : Prop := ((4 ≤ x2) → Q none w) ∧ (¬ (4 ≤ x2) → (q_id 116 6 o0) ∧ q_id 116 6 o0 ∧ s_EvI d 0 mX6_today w [.ref (o0)] (fun v1 u2 => q_id 116 2 r1 ∧ s_EvI d 0 mX2_shine u2 [.ref (r1), .int (v1), .int (x2)] (fun v3 u4 => (q_id 116 14 (o0 + 1)) ∧ (vp_in (50 + x2) (q_sh (o0 + 1)).2) ∧ ∀ w_5 : q_Sm, w_5 = q_wI u4 (o0 + 1) (Int32.toNatClampNeg (50 + x2)) v3 → s_Ex (d + 1) 0 mX6_takeLight 2 [some (.ref (o0)), some (.ref (r1)), some (.int (x2 + 1))] [] w_5 Q X) X) X)
theorem xX6_takeLight_0 {d : Nat} {o0 : Nat} {r1 : Nat} {w : q_Sm} {Q : s_Po} {X : s_Xo} (h : vX6_takeLight_0 d o0 r1 w Q X) : s_Ex (d + 1) 0 mX6_takeLight 0 [some (.ref (o0)), some (.ref (r1)), none] [] w Q X := by
  unfold vX6_takeLight_0 at h
  refine s_blk [(.iconst 0, 1, 0, 0), (.istore_n 2, 1, 0, 0)] 2 [some (.ref (o0)), some (.ref (r1)), some (.int (0))] [] w [] (by decide +kernel) (by refine qt_iconst qc_0 ?_; refine qt_istore_n (L' := [some (.ref (o0)), some (.ref (r1)), some (.int (0))]) rfl ?_; exact qt_z rfl rfl rfl rfl rfl) trivial ?_
  exact h
theorem xX6_takeLight_2 {d : Nat} {o0 : Nat} {r1 : Nat} {x2 : Int32} {w : q_Sm} {Q : s_Po} {X : s_Xo} (h : vX6_takeLight_2 d o0 r1 x2 w Q X) : s_Ex (d + 1) 0 mX6_takeLight 2 [some (.ref (o0)), some (.ref (r1)), some (.int (x2))] [] w Q X := by
  unfold vX6_takeLight_2 at h
  refine s_blk [(.iload_n 2, 1, 0, 0), (.iconst 4, 1, 0, 0)] 4 [some (.ref (o0)), some (.ref (r1)), some (.int (x2))] [.int (4), .int (x2)] w [] (by decide +kernel) (by refine qt_iload_n (x := x2) rfl ?_; refine qt_iconst qc_4 ?_; exact qt_z rfl rfl rfl rfl rfl) trivial ?_
  refine s_icmp (cd := .ge) (off := 27) 31 (by decide +kernel) (by decide) (fun hc => ?_) (fun hc => ?_)
  · replace h := h.1 hc
    exact s_retV (by decide +kernel) rfl h
  · replace h := h.2 hc
    obtain ⟨ho8, h⟩ := h
    refine s_blk [(.aload_n 0, 1, 0, 0), (.getfield 11, 3, 6, 0), (.bipush 50, 2, 0, 0), (.iload_n 2, 1, 0, 0), (.iadd, 1, 0, 0), (.aload_n 1, 1, 0, 0), (.aload_n 0, 1, 0, 0)] 17 [some (.ref (o0)), some (.ref (r1)), some (.int (x2))] [.ref (o0), .ref (r1), .int (50 + x2), .ref (o0 + 1)] w [q_id 116 6 o0] (by decide +kernel) (by refine qt_aload_n (r := o0) rfl ?_; refine qt_getR (r := o0 + 1) rfl rfl rfl ?_; refine qt_bipush qb_50 ?_; refine qt_iload_n (x := x2) rfl ?_; refine qt_iadd ?_; refine qt_aload_n (r := r1) rfl ?_; refine qt_aload_n (r := o0) rfl ?_; exact qt_z rfl rfl rfl rfl rfl) ho8 ?_
    obtain ⟨hid, h⟩ := h
    refine s_callV (a := 0) (a' := 0) (As := []) (id := o0) (st := [.ref (r1), .int (50 + x2), .ref (o0 + 1)]) kX6_today l_6_62 (by decide +kernel) hid rfl (Nat.le_of_ble_eq_true rfl) (s_mono h (s_I_of (fun v1 u2 h => ?_)) (fun _ _ h9 => h9))
    show s_Ex (d + 1) 0 mX6_takeLight 20 [some (.ref (o0)), some (.ref (r1)), some (.int (x2))] [.int (v1), .ref (r1), .int (50 + x2), .ref (o0 + 1)] u2 Q X
    refine s_blk [(.iload_n 2, 1, 0, 0)] 21 [some (.ref (o0)), some (.ref (r1)), some (.int (x2))] [.int (x2), .int (v1), .ref (r1), .int (50 + x2), .ref (o0 + 1)] u2 [] (by decide +kernel) (by refine qt_iload_n (x := x2) rfl ?_; exact qt_z rfl rfl rfl rfl rfl) trivial ?_
    obtain ⟨hid, h⟩ := h
    refine s_callV (a := 0) (a' := 0) (As := [.int (v1), .int (x2)]) (id := r1) (st := [.int (50 + x2), .ref (o0 + 1)]) kX2_shine l_6_82 (by decide +kernel) hid rfl (Nat.le_of_ble_eq_true rfl) (s_mono h (s_I_of (fun v3 u4 h => ?_)) (fun _ _ h9 => h9))
    show s_Ex (d + 1) 0 mX6_takeLight 24 [some (.ref (o0)), some (.ref (r1)), some (.int (x2))] [.int (v3), .int (50 + x2), .ref (o0 + 1)] u4 Q X
    obtain ⟨ho6, h⟩ := h
    obtain ⟨ho7, h⟩ := h
    replace h := h _ rfl
    refine s_blk [(.iastore, 1, 0, 0), (.iinc 2 1, 3, 0, 0), (.goto (-26), 3, 2, 0)] 2 [some (.ref (o0)), some (.ref (r1)), some (.int (x2 + 1))] [] (q_wI u4 (o0 + 1) (Int32.toNatClampNeg (50 + x2)) v3) [q_id 116 14 (o0 + 1), vp_in (50 + x2) (q_sh (o0 + 1)).2] (by decide +kernel) (by refine qt_iast ?_; refine qt_iinc (x := x2) (L' := [some (.ref (o0)), some (.ref (r1)), some (.int (x2 + 1))]) rfl qc_1 rfl ?_; refine qt_goto ?_; exact qt_z rfl rfl rfl rfl rfl) ⟨ho6, ho7⟩ ?_
    exact h
theorem eX6_takeLight {d : Nat} {o0 : Nat} {r1 : Nat} {w : q_Sm} {Q : s_Po} {X : s_Xo} (h : vX6_takeLight_0 d o0 r1 w Q X) : s_Ev (d + 1) 0 mX6_takeLight w [.ref (o0), .ref (r1)] Q X := s_of (by decide +kernel) rfl (Nat.le_of_ble_eq_true rfl) (xX6_takeLight_0 h)
def vX6_loseLight_0 (d : Nat) (o0 : Nat) (w : q_Sm) (Q : s_Po) (X : s_Xo) : Prop := s_Ex (d + 1) 0 mX6_loseLight 2 [some (.ref (o0)), some (.int (0))] [] w Q X
def vX6_loseLight_2 (d : Nat) (o0 : Nat) (x1 : Int32) (w : q_Sm) (Q : s_Po) (X : s_Xo) : Prop := ((4 ≤ x1) → Q none w) ∧ (¬ (4 ≤ x1) → (q_id 116 6 o0) ∧ (q_id 116 14 (o0 + 1)) ∧ (vp_in (50 + x1) (q_sh (o0 + 1)).2) ∧ ∀ w_1 : q_Sm, w_1 = q_wI w (o0 + 1) (Int32.toNatClampNeg (50 + x1)) 0 → s_Ex (d + 1) 0 mX6_loseLight 2 [some (.ref (o0)), some (.int (x1 + 1))] [] w_1 Q X)
theorem xX6_loseLight_0 {d : Nat} {o0 : Nat} {w : q_Sm} {Q : s_Po} {X : s_Xo} (h : vX6_loseLight_0 d o0 w Q X) : s_Ex (d + 1) 0 mX6_loseLight 0 [some (.ref (o0)), none] [] w Q X := by
  unfold vX6_loseLight_0 at h
  refine s_blk [(.iconst 0, 1, 0, 0), (.istore_n 1, 1, 0, 0)] 2 [some (.ref (o0)), some (.int (0))] [] w [] (by decide +kernel) (by refine qt_iconst qc_0 ?_; refine qt_istore_n (L' := [some (.ref (o0)), some (.int (0))]) rfl ?_; exact qt_z rfl rfl rfl rfl rfl) trivial ?_
  exact h
theorem xX6_loseLight_2 {d : Nat} {o0 : Nat} {x1 : Int32} {w : q_Sm} {Q : s_Po} {X : s_Xo} (h : vX6_loseLight_2 d o0 x1 w Q X) : s_Ex (d + 1) 0 mX6_loseLight 2 [some (.ref (o0)), some (.int (x1))] [] w Q X := by
  unfold vX6_loseLight_2 at h
  refine s_blk [(.iload_n 1, 1, 0, 0), (.iconst 4, 1, 0, 0)] 4 [some (.ref (o0)), some (.int (x1))] [.int (4), .int (x1)] w [] (by decide +kernel) (by refine qt_iload_n (x := x1) rfl ?_; refine qt_iconst qc_4 ?_; exact qt_z rfl rfl rfl rfl rfl) trivial ?_
  refine s_icmp (cd := .ge) (off := 19) 23 (by decide +kernel) (by decide) (fun hc => ?_) (fun hc => ?_)
  · replace h := h.1 hc
    exact s_retV (by decide +kernel) rfl h
  · replace h := h.2 hc
    obtain ⟨ho2, h⟩ := h
    obtain ⟨ho3, h⟩ := h
    obtain ⟨ho4, h⟩ := h
    replace h := h _ rfl
    refine s_blk [(.aload_n 0, 1, 0, 0), (.getfield 11, 3, 6, 0), (.bipush 50, 2, 0, 0), (.iload_n 1, 1, 0, 0), (.iadd, 1, 0, 0), (.iconst 0, 1, 0, 0), (.iastore, 1, 0, 0), (.iinc 1 1, 3, 0, 0), (.goto (-18), 3, 2, 0)] 2 [some (.ref (o0)), some (.int (x1 + 1))] [] (q_wI w (o0 + 1) (Int32.toNatClampNeg (50 + x1)) 0) [q_id 116 6 o0, q_id 116 14 (o0 + 1), vp_in (50 + x1) (q_sh (o0 + 1)).2] (by decide +kernel) (by refine qt_aload_n (r := o0) rfl ?_; refine qt_getR (r := o0 + 1) rfl rfl rfl ?_; refine qt_bipush qb_50 ?_; refine qt_iload_n (x := x1) rfl ?_; refine qt_iadd ?_; refine qt_iconst qc_0 ?_; refine qt_iast ?_; refine qt_iinc (x := x1) (L' := [some (.ref (o0)), some (.int (x1 + 1))]) rfl qc_1 rfl ?_; refine qt_goto ?_; exact qt_z rfl rfl rfl rfl rfl) ⟨ho2, ho3, ho4⟩ ?_
    exact h
theorem eX6_loseLight {d : Nat} {o0 : Nat} {w : q_Sm} {Q : s_Po} {X : s_Xo} (h : vX6_loseLight_0 d o0 w Q X) : s_Ev (d + 1) 0 mX6_loseLight w [.ref (o0)] Q X := s_of (by decide +kernel) rfl (Nat.le_of_ble_eq_true rfl) (xX6_loseLight_0 h)
def vX6_payByTerm_0 (d : Nat) (o0 : Nat) (r1 : Nat) (w : q_Sm) (Q : s_Po) (X : s_Xo) : Prop := s_Ex (d + 1) 0 mX6_payByTerm 4 [some (.ref (o0)), some (.ref (r1)), some (.int (0)), some (.int (0)), none, none] [] w Q X
def vX6_payByTerm_4 (d : Nat) (o0 : Nat) (r1 : Nat) (x2 : Int32) (x3 : Int32) (w : q_Sm) (Q : s_Po) (X : s_Xo) : Prop := (q_id 116 2 r1) ∧ (((w.1 r1 3) ≤ x3) → Q (some (.int (x2))) w) ∧ (¬ ((w.1 r1 3) ≤ x3) → (q_id 116 2 r1) ∧ (q_id 116 14 (r1 + 8)) ∧ (vp_in x3 (q_sh (r1 + 8)).2) ∧ q_id 116 6 o0 ∧ s_EvI d 0 mX6_owed w [.ref (o0), .int (w.1 (r1 + 8) (Int32.toNatClampNeg x3))] (fun v1 u2 => (q_id 116 2 r1) ∧ (q_id 116 14 (r1 + 4)) ∧ (vp_in (w.1 (r1 + 8) (Int32.toNatClampNeg x3)) (q_sh (r1 + 4)).2) ∧ q_id 116 6 o0 ∧ s_EvI d 0 mX6_unspent u2 [.ref (o0), .int (u2.1 (r1 + 4) (Int32.toNatClampNeg (w.1 (r1 + 8) (Int32.toNatClampNeg x3))))] (fun v3 u4 => s_EvI d 0 mK_min u4 [.int (v1), .int (v3)] (fun v5 u6 => q_id 116 6 o0 ∧ s_EvI d 0 mX6_pay u6 [.ref (o0), .ref (r1), .int (w.1 (r1 + 8) (Int32.toNatClampNeg x3)), .int (v5)] (fun v7 u8 => ((v7 = 0) → s_Ex (d + 1) 0 mX6_payByTerm 4 [some (.ref (o0)), some (.ref (r1)), some (.int (x2)), some (.int (x3 + 1)), none, none] [] u8 Q X) ∧ (¬ (v7 = 0) → s_Ex (d + 1) 0 mX6_payByTerm 4 [some (.ref (o0)), some (.ref (r1)), some (.int (x2 + v5)), some (.int (x3 + 1)), none, none] [] u8 Q X)) X) X) X) X)
theorem xX6_payByTerm_0 {d : Nat} {o0 : Nat} {r1 : Nat} {w : q_Sm} {Q : s_Po} {X : s_Xo} (h : vX6_payByTerm_0 d o0 r1 w Q X) : s_Ex (d + 1) 0 mX6_payByTerm 0 [some (.ref (o0)), some (.ref (r1)), none, none, none, none] [] w Q X := by
  unfold vX6_payByTerm_0 at h
  refine s_blk [(.iconst 0, 1, 0, 0), (.istore_n 2, 1, 0, 0), (.iconst 0, 1, 0, 0), (.istore_n 3, 1, 0, 0)] 4 [some (.ref (o0)), some (.ref (r1)), some (.int (0)), some (.int (0)), none, none] [] w [] (by decide +kernel) (by refine qt_iconst qc_0 ?_; refine qt_istore_n (L' := [some (.ref (o0)), some (.ref (r1)), some (.int (0)), none, none, none]) rfl ?_; refine qt_iconst qc_0 ?_; refine qt_istore_n (L' := [some (.ref (o0)), some (.ref (r1)), some (.int (0)), some (.int (0)), none, none]) rfl ?_; exact qt_z rfl rfl rfl rfl rfl) trivial ?_
  exact h
theorem xX6_payByTerm_4 {d : Nat} {o0 : Nat} {r1 : Nat} {x2 : Int32} {x3 : Int32} {w : q_Sm} {Q : s_Po} {X : s_Xo} (h : vX6_payByTerm_4 d o0 r1 x2 x3 w Q X) : s_Ex (d + 1) 0 mX6_payByTerm 4 [some (.ref (o0)), some (.ref (r1)), some (.int (x2)), some (.int (x3)), none, none] [] w Q X := by
  unfold vX6_payByTerm_4 at h
  obtain ⟨ho15, h⟩ := h
  refine s_blk [(.iload_n 3, 1, 0, 0), (.aload_n 1, 1, 0, 0), (.getfield 21, 3, 2, 3)] 9 [some (.ref (o0)), some (.ref (r1)), some (.int (x2)), some (.int (x3)), none, none] [.int (w.1 r1 3), .int (x3)] w [q_id 116 2 r1] (by decide +kernel) (by refine qt_iload_n (x := x3) rfl ?_; refine qt_aload_n (r := r1) rfl ?_; refine qt_getI rfl rfl ?_; exact qt_z rfl rfl rfl rfl rfl) ho15 ?_
  refine s_icmp (cd := .ge) (off := 56) 65 (by decide +kernel) (by decide) (fun hc => ?_) (fun hc => ?_)
  · replace h := h.1 hc
    refine s_blk [(.iload_n 2, 1, 0, 0)] 66 [some (.ref (o0)), some (.ref (r1)), some (.int (x2)), some (.int (x3)), none, none] [.int (x2)] w [] (by decide +kernel) (by refine qt_iload_n (x := x2) rfl ?_; exact qt_z rfl rfl rfl rfl rfl) trivial ?_
    exact s_retI .int (by decide +kernel) rfl rfl h
  · replace h := h.2 hc
    obtain ⟨ho12, h⟩ := h
    obtain ⟨ho13, h⟩ := h
    obtain ⟨ho14, h⟩ := h
    refine s_blk [(.aload_n 1, 1, 0, 0), (.getfield 85, 3, 2, 9), (.iload_n 3, 1, 0, 0), (.iaload, 1, 0, 0), (.istore 4, 2, 0, 0), (.aload_n 0, 1, 0, 0), (.iload 4, 2, 0, 0)] 23 [some (.ref (o0)), some (.ref (r1)), some (.int (x2)), some (.int (x3)), some (.int (w.1 (r1 + 8) (Int32.toNatClampNeg x3))), none] [.int (w.1 (r1 + 8) (Int32.toNatClampNeg x3)), .ref (o0)] w [q_id 116 2 r1, q_id 116 14 (r1 + 8), vp_in x3 (q_sh (r1 + 8)).2] (by decide +kernel) (by refine qt_aload_n (r := r1) rfl ?_; refine qt_getR (r := r1 + 8) rfl rfl rfl ?_; refine qt_iload_n (x := x3) rfl ?_; refine qt_iald ?_; refine qt_istore (L' := [some (.ref (o0)), some (.ref (r1)), some (.int (x2)), some (.int (x3)), some (.int (w.1 (r1 + 8) (Int32.toNatClampNeg x3))), none]) rfl ?_; refine qt_aload_n (r := o0) rfl ?_; refine qt_iload (x := w.1 (r1 + 8) (Int32.toNatClampNeg x3)) rfl ?_; exact qt_z rfl rfl rfl rfl rfl) ⟨ho12, ho13, ho14⟩ ?_
    obtain ⟨hid, h⟩ := h
    refine s_callV (a := 0) (a' := 0) (As := [.int (w.1 (r1 + 8) (Int32.toNatClampNeg x3))]) (id := o0) (st := []) kX6_owed l_6_46 (by decide +kernel) hid rfl (Nat.le_of_ble_eq_true rfl) (s_mono h (s_I_of (fun v1 u2 h => ?_)) (fun _ _ h9 => h9))
    show s_Ex (d + 1) 0 mX6_payByTerm 26 [some (.ref (o0)), some (.ref (r1)), some (.int (x2)), some (.int (x3)), some (.int (w.1 (r1 + 8) (Int32.toNatClampNeg x3))), none] [.int (v1)] u2 Q X
    obtain ⟨ho9, h⟩ := h
    obtain ⟨ho10, h⟩ := h
    obtain ⟨ho11, h⟩ := h
    refine s_blk [(.aload_n 0, 1, 0, 0), (.aload_n 1, 1, 0, 0), (.getfield 43, 3, 2, 5), (.iload 4, 2, 0, 0), (.iaload, 1, 0, 0)] 34 [some (.ref (o0)), some (.ref (r1)), some (.int (x2)), some (.int (x3)), some (.int (w.1 (r1 + 8) (Int32.toNatClampNeg x3))), none] [.int (u2.1 (r1 + 4) (Int32.toNatClampNeg (w.1 (r1 + 8) (Int32.toNatClampNeg x3)))), .ref (o0), .int (v1)] u2 [q_id 116 2 r1, q_id 116 14 (r1 + 4), vp_in (w.1 (r1 + 8) (Int32.toNatClampNeg x3)) (q_sh (r1 + 4)).2] (by decide +kernel) (by refine qt_aload_n (r := o0) rfl ?_; refine qt_aload_n (r := r1) rfl ?_; refine qt_getR (r := r1 + 4) rfl rfl rfl ?_; refine qt_iload (x := w.1 (r1 + 8) (Int32.toNatClampNeg x3)) rfl ?_; refine qt_iald ?_; exact qt_z rfl rfl rfl rfl rfl) ⟨ho9, ho10, ho11⟩ ?_
    obtain ⟨hid, h⟩ := h
    refine s_callV (a := 0) (a' := 0) (As := [.int (u2.1 (r1 + 4) (Int32.toNatClampNeg (w.1 (r1 + 8) (Int32.toNatClampNeg x3))))]) (id := o0) (st := [.int (v1)]) kX6_unspent l_6_50 (by decide +kernel) hid rfl (Nat.le_of_ble_eq_true rfl) (s_mono h (s_I_of (fun v3 u4 h => ?_)) (fun _ _ h9 => h9))
    show s_Ex (d + 1) 0 mX6_payByTerm 37 [some (.ref (o0)), some (.ref (r1)), some (.int (x2)), some (.int (x3)), some (.int (w.1 (r1 + 8) (Int32.toNatClampNeg x3))), none] [.int (v3), .int (v1)] u4 Q X
    refine s_callS (a := 0) (a' := 0) (As := [.int (v1), .int (v3)]) (st := []) kK_min l_6_73 (by decide +kernel) rfl (Nat.le_of_ble_eq_true rfl) (s_mono h (s_I_of (fun v5 u6 h => ?_)) (fun _ _ h9 => h9))
    show s_Ex (d + 1) 0 mX6_payByTerm 40 [some (.ref (o0)), some (.ref (r1)), some (.int (x2)), some (.int (x3)), some (.int (w.1 (r1 + 8) (Int32.toNatClampNeg x3))), none] [.int (v5)] u6 Q X
    refine s_blk [(.istore 5, 2, 0, 0), (.aload_n 0, 1, 0, 0), (.aload_n 1, 1, 0, 0), (.iload 4, 2, 0, 0), (.iload 5, 2, 0, 0)] 48 [some (.ref (o0)), some (.ref (r1)), some (.int (x2)), some (.int (x3)), some (.int (w.1 (r1 + 8) (Int32.toNatClampNeg x3))), some (.int (v5))] [.int (v5), .int (w.1 (r1 + 8) (Int32.toNatClampNeg x3)), .ref (r1), .ref (o0)] u6 [] (by decide +kernel) (by refine qt_istore (L' := [some (.ref (o0)), some (.ref (r1)), some (.int (x2)), some (.int (x3)), some (.int (w.1 (r1 + 8) (Int32.toNatClampNeg x3))), some (.int (v5))]) rfl ?_; refine qt_aload_n (r := o0) rfl ?_; refine qt_aload_n (r := r1) rfl ?_; refine qt_iload (x := w.1 (r1 + 8) (Int32.toNatClampNeg x3)) rfl ?_; refine qt_iload (x := v5) rfl ?_; exact qt_z rfl rfl rfl rfl rfl) trivial ?_
    obtain ⟨hid, h⟩ := h
    refine s_callV (a := 0) (a' := 0) (As := [.ref (r1), .int (w.1 (r1 + 8) (Int32.toNatClampNeg x3)), .int (v5)]) (id := o0) (st := []) kX6_pay l_6_88 (by decide +kernel) hid rfl (Nat.le_of_ble_eq_true rfl) (s_mono h (s_I_of (fun v7 u8 h => ?_)) (fun _ _ h9 => h9))
    show s_Ex (d + 1) 0 mX6_payByTerm 51 [some (.ref (o0)), some (.ref (r1)), some (.int (x2)), some (.int (x3)), some (.int (w.1 (r1 + 8) (Int32.toNatClampNeg x3))), some (.int (v5))] [.int (v7)] u8 Q X
    refine s_if (cd := .eq) (off := 8) 59 (by decide +kernel) (by decide) (fun hc => ?_) (fun hc => ?_)
    · replace h := h.1 hc
      refine s_blk [(.iinc 3 1, 3, 0, 0), (.goto (-58), 3, 4, 0), (.nop, 0, 4, 0), (.nop, 0, 5, 0)] 4 [some (.ref (o0)), some (.ref (r1)), some (.int (x2)), some (.int (x3 + 1)), none, none] [] u8 [] (by decide +kernel) (by refine qt_iinc (x := x3) (L' := [some (.ref (o0)), some (.ref (r1)), some (.int (x2)), some (.int (x3 + 1)), some (.int (w.1 (r1 + 8) (Int32.toNatClampNeg x3))), some (.int (v5))]) rfl qc_1 rfl ?_; refine qt_goto ?_; refine qt_nop (L' := [some (.ref (o0)), some (.ref (r1)), some (.int (x2)), some (.int (x3 + 1)), none, some (.int (v5))]) rfl ?_; refine qt_nop (L' := [some (.ref (o0)), some (.ref (r1)), some (.int (x2)), some (.int (x3 + 1)), none, none]) rfl ?_; exact qt_z rfl rfl rfl rfl rfl) trivial ?_
      exact h
    · replace h := h.2 hc
      refine s_blk [(.iload_n 2, 1, 0, 0), (.iload 5, 2, 0, 0), (.iadd, 1, 0, 0), (.istore_n 2, 1, 0, 0), (.iinc 3 1, 3, 0, 0), (.goto (-58), 3, 4, 0), (.nop, 0, 4, 0), (.nop, 0, 5, 0)] 4 [some (.ref (o0)), some (.ref (r1)), some (.int (x2 + v5)), some (.int (x3 + 1)), none, none] [] u8 [] (by decide +kernel) (by refine qt_iload_n (x := x2) rfl ?_; refine qt_iload (x := v5) rfl ?_; refine qt_iadd ?_; refine qt_istore_n (L' := [some (.ref (o0)), some (.ref (r1)), some (.int (x2 + v5)), some (.int (x3)), some (.int (w.1 (r1 + 8) (Int32.toNatClampNeg x3))), some (.int (v5))]) rfl ?_; refine qt_iinc (x := x3) (L' := [some (.ref (o0)), some (.ref (r1)), some (.int (x2 + v5)), some (.int (x3 + 1)), some (.int (w.1 (r1 + 8) (Int32.toNatClampNeg x3))), some (.int (v5))]) rfl qc_1 rfl ?_; refine qt_goto ?_; refine qt_nop (L' := [some (.ref (o0)), some (.ref (r1)), some (.int (x2 + v5)), some (.int (x3 + 1)), none, some (.int (v5))]) rfl ?_; refine qt_nop (L' := [some (.ref (o0)), some (.ref (r1)), some (.int (x2 + v5)), some (.int (x3 + 1)), none, none]) rfl ?_; exact qt_z rfl rfl rfl rfl rfl) trivial ?_
      exact h
theorem eX6_payByTerm {d : Nat} {o0 : Nat} {r1 : Nat} {w : q_Sm} {Q : s_Po} {X : s_Xo} (h : vX6_payByTerm_0 d o0 r1 w Q X) : s_Ev (d + 1) 0 mX6_payByTerm w [.ref (o0), .ref (r1)] Q X := s_of (by decide +kernel) rfl (Nat.le_of_ble_eq_true rfl) (xX6_payByTerm_0 h)
def vX6_growth_0 (d : Nat) (o0 : Nat) (x1 : Int32) (r2 : Nat) (r3 : Nat) (w : q_Sm) (Q : s_Po) (X : s_Xo) : Prop := q_id 116 6 o0 ∧ s_EvI d 0 mX6_owed w [.ref (o0), .int (x1)] (fun v1 u2 => q_id 116 6 o0 ∧ s_EvI d 0 mX6_paidToday u2 [.ref (o0), .int (x1)] (fun v3 u4 => q_id 116 6 o0 ∧ s_EvI d 0 mX6_today u4 [.ref (o0)] (fun v5 u6 => q_id 116 6 o0 ∧ s_EvI d 0 mX6_growthOf u6 [.ref (o0), .int (x1), .int (v1), .int (v3), .int (v5), .ref (r2), .ref (r3)] (fun v7 u8 => Q (some (.int (v7))) u8) X) X) X) X
theorem xX6_growth_0 {d : Nat} {o0 : Nat} {x1 : Int32} {r2 : Nat} {r3 : Nat} {w : q_Sm} {Q : s_Po} {X : s_Xo} (h : vX6_growth_0 d o0 x1 r2 r3 w Q X) : s_Ex (d + 1) 0 mX6_growth 0 [some (.ref (o0)), some (.int (x1)), some (.ref (r2)), some (.ref (r3))] [] w Q X := by
  unfold vX6_growth_0 at h
  refine s_blk [(.aload_n 0, 1, 0, 0), (.iload_n 1, 1, 0, 0), (.aload_n 0, 1, 0, 0), (.iload_n 1, 1, 0, 0)] 4 [some (.ref (o0)), some (.int (x1)), some (.ref (r2)), some (.ref (r3))] [.int (x1), .ref (o0), .int (x1), .ref (o0)] w [] (by decide +kernel) (by refine qt_aload_n (r := o0) rfl ?_; refine qt_iload_n (x := x1) rfl ?_; refine qt_aload_n (r := o0) rfl ?_; refine qt_iload_n (x := x1) rfl ?_; exact qt_z rfl rfl rfl rfl rfl) trivial ?_
  obtain ⟨hid, h⟩ := h
  refine s_callV (a := 0) (a' := 0) (As := [.int (x1)]) (id := o0) (st := [.int (x1), .ref (o0)]) kX6_owed l_6_46 (by decide +kernel) hid rfl (Nat.le_of_ble_eq_true rfl) (s_mono h (s_I_of (fun v1 u2 h => ?_)) (fun _ _ h9 => h9))
  show s_Ex (d + 1) 0 mX6_growth 7 [some (.ref (o0)), some (.int (x1)), some (.ref (r2)), some (.ref (r3))] [.int (v1), .int (x1), .ref (o0)] u2 Q X
  refine s_blk [(.aload_n 0, 1, 0, 0), (.iload_n 1, 1, 0, 0)] 9 [some (.ref (o0)), some (.int (x1)), some (.ref (r2)), some (.ref (r3))] [.int (x1), .ref (o0), .int (v1), .int (x1), .ref (o0)] u2 [] (by decide +kernel) (by refine qt_aload_n (r := o0) rfl ?_; refine qt_iload_n (x := x1) rfl ?_; exact qt_z rfl rfl rfl rfl rfl) trivial ?_
  obtain ⟨hid, h⟩ := h
  refine s_callV (a := 0) (a' := 0) (As := [.int (x1)]) (id := o0) (st := [.int (v1), .int (x1), .ref (o0)]) kX6_paidToday l_6_66 (by decide +kernel) hid rfl (Nat.le_of_ble_eq_true rfl) (s_mono h (s_I_of (fun v3 u4 h => ?_)) (fun _ _ h9 => h9))
  show s_Ex (d + 1) 0 mX6_growth 12 [some (.ref (o0)), some (.int (x1)), some (.ref (r2)), some (.ref (r3))] [.int (v3), .int (v1), .int (x1), .ref (o0)] u4 Q X
  refine s_blk [(.aload_n 0, 1, 0, 0)] 13 [some (.ref (o0)), some (.int (x1)), some (.ref (r2)), some (.ref (r3))] [.ref (o0), .int (v3), .int (v1), .int (x1), .ref (o0)] u4 [] (by decide +kernel) (by refine qt_aload_n (r := o0) rfl ?_; exact qt_z rfl rfl rfl rfl rfl) trivial ?_
  obtain ⟨hid, h⟩ := h
  refine s_callV (a := 0) (a' := 0) (As := []) (id := o0) (st := [.int (v3), .int (v1), .int (x1), .ref (o0)]) kX6_today l_6_62 (by decide +kernel) hid rfl (Nat.le_of_ble_eq_true rfl) (s_mono h (s_I_of (fun v5 u6 h => ?_)) (fun _ _ h9 => h9))
  show s_Ex (d + 1) 0 mX6_growth 16 [some (.ref (o0)), some (.int (x1)), some (.ref (r2)), some (.ref (r3))] [.int (v5), .int (v3), .int (v1), .int (x1), .ref (o0)] u6 Q X
  refine s_blk [(.aload_n 2, 1, 0, 0), (.aload_n 3, 1, 0, 0)] 18 [some (.ref (o0)), some (.int (x1)), some (.ref (r2)), some (.ref (r3))] [.ref (r3), .ref (r2), .int (v5), .int (v3), .int (v1), .int (x1), .ref (o0)] u6 [] (by decide +kernel) (by refine qt_aload_n (r := r2) rfl ?_; refine qt_aload_n (r := r3) rfl ?_; exact qt_z rfl rfl rfl rfl rfl) trivial ?_
  obtain ⟨hid, h⟩ := h
  refine s_callV (a := 0) (a' := 0) (As := [.int (x1), .int (v1), .int (v3), .int (v5), .ref (r2), .ref (r3)]) (id := o0) (st := []) kX6_growthOf l_6_69 (by decide +kernel) hid rfl (Nat.le_of_ble_eq_true rfl) (s_mono h (s_I_of (fun v7 u8 h => ?_)) (fun _ _ h9 => h9))
  show s_Ex (d + 1) 0 mX6_growth 21 [some (.ref (o0)), some (.int (x1)), some (.ref (r2)), some (.ref (r3))] [.int (v7)] u8 Q X
  exact s_retI .int (by decide +kernel) rfl rfl h
theorem eX6_growth {d : Nat} {o0 : Nat} {x1 : Int32} {r2 : Nat} {r3 : Nat} {w : q_Sm} {Q : s_Po} {X : s_Xo} (h : vX6_growth_0 d o0 x1 r2 r3 w Q X) : s_Ev (d + 1) 0 mX6_growth w [.ref (o0), .int (x1), .ref (r2), .ref (r3)] Q X := s_of (by decide +kernel) rfl (Nat.le_of_ble_eq_true rfl) (xX6_growth_0 h)
def vX6_growthOf_0 (d : Nat) (o0 : Nat) (x1 : Int32) (x2 : Int32) (x3 : Int32) (x4 : Int32) (r5 : Nat) (r6 : Nat) (w : q_Sm) (Q : s_Po) (X : s_Xo) : Prop := ((0 < x2) → (q_id 116 2 r5) ∧ (q_id 116 14 (r5 + 7)) ∧ (vp_in x1 (q_sh (r5 + 7)).2) ∧ s_EvI d 0 mK_max w [.int (0), .int (x4 - (w.1 (r5 + 7) (Int32.toNatClampNeg x1)))] (fun v1 u2 => (q_id 116 2 r5) ∧ q_id 116 6 o0 ∧ s_EvI d 0 mX6_holder u2 [.ref (o0), .int (x1)] (fun v3 u4 => (q_id 116 14 (r5 + 1)) ∧ (vp_in v3 (q_sh (r5 + 1)).2) ∧ (q_id 116 2 r5) ∧ (q_id 116 14 (r5 + 6)) ∧ (vp_in x1 (q_sh (r5 + 6)).2) ∧ (q_id 116 2 r5) ∧ (q_id 116 14 (r5 + 4)) ∧ (vp_in x1 (q_sh (r5 + 4)).2) ∧ q_id 116 5 r6 ∧ s_EvI d 0 mX5_growth u4 [.ref (r6), .int (x2), .int (u4.1 (r5 + 6) (Int32.toNatClampNeg x1)), .int (v1), .int (x4), .int (x3), .int (u4.1 (r5 + 4) (Int32.toNatClampNeg x1)), .int (u4.1 (r5 + 1) (Int32.toNatClampNeg v3))] (fun v5 u6 => Q (some (.int (v5))) u6) X) X) X) ∧ (¬ (0 < x2) → Q (some (.int (0))) w)
theorem xX6_growthOf_0 {d : Nat} {o0 : Nat} {x1 : Int32} {x2 : Int32} {x3 : Int32} {x4 : Int32} {r5 : Nat} {r6 : Nat} {w : q_Sm} {Q : s_Po} {X : s_Xo} (h : vX6_growthOf_0 d o0 x1 x2 x3 x4 r5 r6 w Q X) : s_Ex (d + 1) 0 mX6_growthOf 0 [some (.ref (o0)), some (.int (x1)), some (.int (x2)), some (.int (x3)), some (.int (x4)), some (.ref (r5)), some (.ref (r6)), none, none] [] w Q X := by
  unfold vX6_growthOf_0 at h
  refine s_blk [(.iload_n 2, 1, 0, 0)] 1 [some (.ref (o0)), some (.int (x1)), some (.int (x2)), some (.int (x3)), some (.int (x4)), some (.ref (r5)), some (.ref (r6)), none, none] [.int (x2)] w [] (by decide +kernel) (by refine qt_iload_n (x := x2) rfl ?_; exact qt_z rfl rfl rfl rfl rfl) trivial ?_
  refine s_if (cd := .gt) (off := 5) 6 (by decide +kernel) (by decide) (fun hc => ?_) (fun hc => ?_)
  · replace h := h.1 hc
    obtain ⟨ho16, h⟩ := h
    obtain ⟨ho17, h⟩ := h
    obtain ⟨ho18, h⟩ := h
    refine s_blk [(.iconst 0, 1, 0, 0), (.iload 4, 2, 0, 0), (.aload 5, 2, 0, 0), (.getfield 79, 3, 2, 8), (.iload_n 1, 1, 0, 0), (.iaload, 1, 0, 0), (.isub, 1, 0, 0)] 17 [some (.ref (o0)), some (.int (x1)), some (.int (x2)), some (.int (x3)), some (.int (x4)), some (.ref (r5)), some (.ref (r6)), none, none] [.int (x4 - (w.1 (r5 + 7) (Int32.toNatClampNeg x1))), .int (0)] w [q_id 116 2 r5, q_id 116 14 (r5 + 7), vp_in x1 (q_sh (r5 + 7)).2] (by decide +kernel) (by refine qt_iconst qc_0 ?_; refine qt_iload (x := x4) rfl ?_; refine qt_aload (r := r5) rfl ?_; refine qt_getR (r := r5 + 7) rfl rfl rfl ?_; refine qt_iload_n (x := x1) rfl ?_; refine qt_iald ?_; refine qt_isub ?_; exact qt_z rfl rfl rfl rfl rfl) ⟨ho16, ho17, ho18⟩ ?_
    refine s_callS (a := 0) (a' := 0) (As := [.int (0), .int (x4 - (w.1 (r5 + 7) (Int32.toNatClampNeg x1)))]) (st := []) kK_max l_6_92 (by decide +kernel) rfl (Nat.le_of_ble_eq_true rfl) (s_mono h (s_I_of (fun v1 u2 h => ?_)) (fun _ _ h9 => h9))
    show s_Ex (d + 1) 0 mX6_growthOf 20 [some (.ref (o0)), some (.int (x1)), some (.int (x2)), some (.int (x3)), some (.int (x4)), some (.ref (r5)), some (.ref (r6)), none, none] [.int (v1)] u2 Q X
    obtain ⟨ho15, h⟩ := h
    refine s_blk [(.istore 7, 2, 0, 0), (.aload 5, 2, 0, 0), (.getfield 95, 3, 2, 1), (.aload_n 0, 1, 0, 0), (.iload_n 1, 1, 0, 0)] 29 [some (.ref (o0)), some (.int (x1)), some (.int (x2)), some (.int (x3)), some (.int (x4)), some (.ref (r5)), some (.ref (r6)), some (.int (v1)), none] [.int (x1), .ref (o0), .ref (r5 + 1)] u2 [q_id 116 2 r5] (by decide +kernel) (by refine qt_istore (L' := [some (.ref (o0)), some (.int (x1)), some (.int (x2)), some (.int (x3)), some (.int (x4)), some (.ref (r5)), some (.ref (r6)), some (.int (v1)), none]) rfl ?_; refine qt_aload (r := r5) rfl ?_; refine qt_getR (r := r5 + 1) rfl rfl rfl ?_; refine qt_aload_n (r := o0) rfl ?_; refine qt_iload_n (x := x1) rfl ?_; exact qt_z rfl rfl rfl rfl rfl) ho15 ?_
    obtain ⟨hid, h⟩ := h
    refine s_callV (a := 0) (a' := 0) (As := [.int (x1)]) (id := o0) (st := [.ref (r5 + 1)]) kX6_holder l_6_59 (by decide +kernel) hid rfl (Nat.le_of_ble_eq_true rfl) (s_mono h (s_I_of (fun v3 u4 h => ?_)) (fun _ _ h9 => h9))
    show s_Ex (d + 1) 0 mX6_growthOf 32 [some (.ref (o0)), some (.int (x1)), some (.int (x2)), some (.int (x3)), some (.int (x4)), some (.ref (r5)), some (.ref (r6)), some (.int (v1)), none] [.int (v3), .ref (r5 + 1)] u4 Q X
    obtain ⟨ho7, h⟩ := h
    obtain ⟨ho8, h⟩ := h
    obtain ⟨ho9, h⟩ := h
    obtain ⟨ho10, h⟩ := h
    obtain ⟨ho11, h⟩ := h
    obtain ⟨ho12, h⟩ := h
    obtain ⟨ho13, h⟩ := h
    obtain ⟨ho14, h⟩ := h
    refine s_blk [(.iaload, 1, 0, 0), (.istore 8, 2, 0, 0), (.aload 6, 2, 0, 0), (.iload_n 2, 1, 0, 0), (.aload 5, 2, 0, 0), (.getfield 98, 3, 2, 7), (.iload_n 1, 1, 0, 0), (.iaload, 1, 0, 0), (.iload 7, 2, 0, 0), (.iload 4, 2, 0, 0), (.iload_n 3, 1, 0, 0), (.aload 5, 2, 0, 0), (.getfield 43, 3, 2, 5), (.iload_n 1, 1, 0, 0), (.iaload, 1, 0, 0), (.iload 8, 2, 0, 0)] 59 [some (.ref (o0)), some (.int (x1)), some (.int (x2)), some (.int (x3)), some (.int (x4)), some (.ref (r5)), some (.ref (r6)), some (.int (v1)), some (.int (u4.1 (r5 + 1) (Int32.toNatClampNeg v3)))] [.int (u4.1 (r5 + 1) (Int32.toNatClampNeg v3)), .int (u4.1 (r5 + 4) (Int32.toNatClampNeg x1)), .int (x3), .int (x4), .int (v1), .int (u4.1 (r5 + 6) (Int32.toNatClampNeg x1)), .int (x2), .ref (r6)] u4 [q_id 116 14 (r5 + 1), vp_in v3 (q_sh (r5 + 1)).2, q_id 116 2 r5, q_id 116 14 (r5 + 6), vp_in x1 (q_sh (r5 + 6)).2, q_id 116 2 r5, q_id 116 14 (r5 + 4), vp_in x1 (q_sh (r5 + 4)).2] (by decide +kernel) (by refine qt_iald ?_; refine qt_istore (L' := [some (.ref (o0)), some (.int (x1)), some (.int (x2)), some (.int (x3)), some (.int (x4)), some (.ref (r5)), some (.ref (r6)), some (.int (v1)), some (.int (u4.1 (r5 + 1) (Int32.toNatClampNeg v3)))]) rfl ?_; refine qt_aload (r := r6) rfl ?_; refine qt_iload_n (x := x2) rfl ?_; refine qt_aload (r := r5) rfl ?_; refine qt_getR (r := r5 + 6) rfl rfl rfl ?_; refine qt_iload_n (x := x1) rfl ?_; refine qt_iald ?_; refine qt_iload (x := v1) rfl ?_; refine qt_iload (x := x4) rfl ?_; refine qt_iload_n (x := x3) rfl ?_; refine qt_aload (r := r5) rfl ?_; refine qt_getR (r := r5 + 4) rfl rfl rfl ?_; refine qt_iload_n (x := x1) rfl ?_; refine qt_iald ?_; refine qt_iload (x := u4.1 (r5 + 1) (Int32.toNatClampNeg v3)) rfl ?_; exact qt_z rfl rfl rfl rfl rfl) ⟨ho7, ho8, ho9, ho10, ho11, ho12, ho13, ho14⟩ ?_
    obtain ⟨hid, h⟩ := h
    refine s_callV (a := 0) (a' := 0) (As := [.int (x2), .int (u4.1 (r5 + 6) (Int32.toNatClampNeg x1)), .int (v1), .int (x4), .int (x3), .int (u4.1 (r5 + 4) (Int32.toNatClampNeg x1)), .int (u4.1 (r5 + 1) (Int32.toNatClampNeg v3))]) (id := r6) (st := []) kX5_growth l_6_101 (by decide +kernel) hid rfl (Nat.le_of_ble_eq_true rfl) (s_mono h (s_I_of (fun v5 u6 h => ?_)) (fun _ _ h9 => h9))
    show s_Ex (d + 1) 0 mX6_growthOf 62 [some (.ref (o0)), some (.int (x1)), some (.int (x2)), some (.int (x3)), some (.int (x4)), some (.ref (r5)), some (.ref (r6)), some (.int (v1)), some (.int (u4.1 (r5 + 1) (Int32.toNatClampNeg v3)))] [.int (v5)] u6 Q X
    exact s_retI .int (by decide +kernel) rfl rfl h
  · replace h := h.2 hc
    refine s_blk [(.iconst 0, 1, 0, 0)] 5 [some (.ref (o0)), some (.int (x1)), some (.int (x2)), some (.int (x3)), some (.int (x4)), some (.ref (r5)), some (.ref (r6)), none, none] [.int (0)] w [] (by decide +kernel) (by refine qt_iconst qc_0 ?_; exact qt_z rfl rfl rfl rfl rfl) trivial ?_
    exact s_retI .int (by decide +kernel) rfl rfl h
theorem eX6_growthOf {d : Nat} {o0 : Nat} {x1 : Int32} {x2 : Int32} {x3 : Int32} {x4 : Int32} {r5 : Nat} {r6 : Nat} {w : q_Sm} {Q : s_Po} {X : s_Xo} (h : vX6_growthOf_0 d o0 x1 x2 x3 x4 r5 r6 w Q X) : s_Ev (d + 1) 0 mX6_growthOf w [.ref (o0), .int (x1), .int (x2), .int (x3), .int (x4), .ref (r5), .ref (r6)] Q X := s_of (by decide +kernel) rfl (Nat.le_of_ble_eq_true rfl) (xX6_growthOf_0 h)
def vX6_firstDue_0 (d : Nat) (o0 : Nat) (r1 : Nat) (w : q_Sm) (Q : s_Po) (X : s_Xo) : Prop := s_Ex (d + 1) 0 mX6_firstDue 2 [some (.ref (o0)), some (.ref (r1)), some (.int (0))] [] w Q X
def vX6_firstDue_2 (d : Nat) (o0 : Nat) (r1 : Nat) (x2 : Int32) (w : q_Sm) (Q : s_Po) (X : s_Xo) : Prop := (q_id 116 2 r1) ∧ (((w.1 r1 3) ≤ x2) → Q (some (.int (-1))) w) ∧ (¬ ((w.1 r1 3) ≤ x2) → (q_id 116 2 r1) ∧ (q_id 116 14 (r1 + 8)) ∧ (vp_in x2 (q_sh (r1 + 8)).2) ∧ q_id 116 6 o0 ∧ s_EvI d 0 mX6_owed w [.ref (o0), .int (w.1 (r1 + 8) (Int32.toNatClampNeg x2))] (fun v1 u2 => ((v1 ≤ 0) → s_Ex (d + 1) 0 mX6_firstDue 2 [some (.ref (o0)), some (.ref (r1)), some (.int (x2 + 1))] [] u2 Q X) ∧ (¬ (v1 ≤ 0) → (q_id 116 2 r1) ∧ (q_id 116 14 (r1 + 8)) ∧ (vp_in x2 (q_sh (r1 + 8)).2) ∧ Q (some (.int (u2.1 (r1 + 8) (Int32.toNatClampNeg x2)))) u2)) X)
theorem xX6_firstDue_0 {d : Nat} {o0 : Nat} {r1 : Nat} {w : q_Sm} {Q : s_Po} {X : s_Xo} (h : vX6_firstDue_0 d o0 r1 w Q X) : s_Ex (d + 1) 0 mX6_firstDue 0 [some (.ref (o0)), some (.ref (r1)), none] [] w Q X := by
  unfold vX6_firstDue_0 at h
  refine s_blk [(.iconst 0, 1, 0, 0), (.istore_n 2, 1, 0, 0)] 2 [some (.ref (o0)), some (.ref (r1)), some (.int (0))] [] w [] (by decide +kernel) (by refine qt_iconst qc_0 ?_; refine qt_istore_n (L' := [some (.ref (o0)), some (.ref (r1)), some (.int (0))]) rfl ?_; exact qt_z rfl rfl rfl rfl rfl) trivial ?_
  exact h
theorem xX6_firstDue_2 {d : Nat} {o0 : Nat} {r1 : Nat} {x2 : Int32} {w : q_Sm} {Q : s_Po} {X : s_Xo} (h : vX6_firstDue_2 d o0 r1 x2 w Q X) : s_Ex (d + 1) 0 mX6_firstDue 2 [some (.ref (o0)), some (.ref (r1)), some (.int (x2))] [] w Q X := by
  unfold vX6_firstDue_2 at h
  obtain ⟨ho9, h⟩ := h
  refine s_blk [(.iload_n 2, 1, 0, 0), (.aload_n 1, 1, 0, 0), (.getfield 21, 3, 2, 3)] 7 [some (.ref (o0)), some (.ref (r1)), some (.int (x2))] [.int (w.1 r1 3), .int (x2)] w [q_id 116 2 r1] (by decide +kernel) (by refine qt_iload_n (x := x2) rfl ?_; refine qt_aload_n (r := r1) rfl ?_; refine qt_getI rfl rfl ?_; exact qt_z rfl rfl rfl rfl rfl) ho9 ?_
  refine s_icmp (cd := .ge) (off := 29) 36 (by decide +kernel) (by decide) (fun hc => ?_) (fun hc => ?_)
  · replace h := h.1 hc
    refine s_blk [(.iconst (-1), 1, 0, 0)] 37 [some (.ref (o0)), some (.ref (r1)), some (.int (x2))] [.int (-1)] w [] (by decide +kernel) (by refine qt_iconst qc_m1 ?_; exact qt_z rfl rfl rfl rfl rfl) trivial ?_
    exact s_retI .int (by decide +kernel) rfl rfl h
  · replace h := h.2 hc
    obtain ⟨ho6, h⟩ := h
    obtain ⟨ho7, h⟩ := h
    obtain ⟨ho8, h⟩ := h
    refine s_blk [(.aload_n 0, 1, 0, 0), (.aload_n 1, 1, 0, 0), (.getfield 85, 3, 2, 9), (.iload_n 2, 1, 0, 0), (.iaload, 1, 0, 0)] 17 [some (.ref (o0)), some (.ref (r1)), some (.int (x2))] [.int (w.1 (r1 + 8) (Int32.toNatClampNeg x2)), .ref (o0)] w [q_id 116 2 r1, q_id 116 14 (r1 + 8), vp_in x2 (q_sh (r1 + 8)).2] (by decide +kernel) (by refine qt_aload_n (r := o0) rfl ?_; refine qt_aload_n (r := r1) rfl ?_; refine qt_getR (r := r1 + 8) rfl rfl rfl ?_; refine qt_iload_n (x := x2) rfl ?_; refine qt_iald ?_; exact qt_z rfl rfl rfl rfl rfl) ⟨ho6, ho7, ho8⟩ ?_
    obtain ⟨hid, h⟩ := h
    refine s_callV (a := 0) (a' := 0) (As := [.int (w.1 (r1 + 8) (Int32.toNatClampNeg x2))]) (id := o0) (st := []) kX6_owed l_6_46 (by decide +kernel) hid rfl (Nat.le_of_ble_eq_true rfl) (s_mono h (s_I_of (fun v1 u2 h => ?_)) (fun _ _ h9 => h9))
    show s_Ex (d + 1) 0 mX6_firstDue 20 [some (.ref (o0)), some (.ref (r1)), some (.int (x2))] [.int (v1)] u2 Q X
    refine s_if (cd := .le) (off := 10) 30 (by decide +kernel) (by decide) (fun hc => ?_) (fun hc => ?_)
    · replace h := h.1 hc
      refine s_blk [(.iinc 2 1, 3, 0, 0), (.goto (-31), 3, 2, 0)] 2 [some (.ref (o0)), some (.ref (r1)), some (.int (x2 + 1))] [] u2 [] (by decide +kernel) (by refine qt_iinc (x := x2) (L' := [some (.ref (o0)), some (.ref (r1)), some (.int (x2 + 1))]) rfl qc_1 rfl ?_; refine qt_goto ?_; exact qt_z rfl rfl rfl rfl rfl) trivial ?_
      exact h
    · replace h := h.2 hc
      obtain ⟨ho3, h⟩ := h
      obtain ⟨ho4, h⟩ := h
      obtain ⟨ho5, h⟩ := h
      refine s_blk [(.aload_n 1, 1, 0, 0), (.getfield 85, 3, 2, 9), (.iload_n 2, 1, 0, 0), (.iaload, 1, 0, 0)] 29 [some (.ref (o0)), some (.ref (r1)), some (.int (x2))] [.int (u2.1 (r1 + 8) (Int32.toNatClampNeg x2))] u2 [q_id 116 2 r1, q_id 116 14 (r1 + 8), vp_in x2 (q_sh (r1 + 8)).2] (by decide +kernel) (by refine qt_aload_n (r := r1) rfl ?_; refine qt_getR (r := r1 + 8) rfl rfl rfl ?_; refine qt_iload_n (x := x2) rfl ?_; refine qt_iald ?_; exact qt_z rfl rfl rfl rfl rfl) ⟨ho3, ho4, ho5⟩ ?_
      exact s_retI .int (by decide +kernel) rfl rfl h
theorem eX6_firstDue {d : Nat} {o0 : Nat} {r1 : Nat} {w : q_Sm} {Q : s_Po} {X : s_Xo} (h : vX6_firstDue_0 d o0 r1 w Q X) : s_Ev (d + 1) 0 mX6_firstDue w [.ref (o0), .ref (r1)] Q X := s_of (by decide +kernel) rfl (Nat.le_of_ble_eq_true rfl) (xX6_firstDue_0 h)
def vX6_owedInAll_0 (d : Nat) (o0 : Nat) (r1 : Nat) (w : q_Sm) (Q : s_Po) (X : s_Xo) : Prop := s_Ex (d + 1) 0 mX6_owedInAll 4 [some (.ref (o0)), some (.ref (r1)), some (.int (0)), some (.int (0))] [] w Q X
def vX6_owedInAll_4 (d : Nat) (o0 : Nat) (r1 : Nat) (x2 : Int32) (x3 : Int32) (w : q_Sm) (Q : s_Po) (X : s_Xo) : Prop := (q_id 116 2 r1) ∧ (((w.1 r1 3) ≤ x3) → Q (some (.int (x2))) w) ∧ (¬ ((w.1 r1 3) ≤ x3) → q_id 116 6 o0 ∧ s_EvI d 0 mX6_owed w [.ref (o0), .int (x3)] (fun v1 u2 => s_Ex (d + 1) 0 mX6_owedInAll 4 [some (.ref (o0)), some (.ref (r1)), some (.int (x2 + v1)), some (.int (x3 + 1))] [] u2 Q X) X)
theorem xX6_owedInAll_0 {d : Nat} {o0 : Nat} {r1 : Nat} {w : q_Sm} {Q : s_Po} {X : s_Xo} (h : vX6_owedInAll_0 d o0 r1 w Q X) : s_Ex (d + 1) 0 mX6_owedInAll 0 [some (.ref (o0)), some (.ref (r1)), none, none] [] w Q X := by
  unfold vX6_owedInAll_0 at h
  refine s_blk [(.iconst 0, 1, 0, 0), (.istore_n 2, 1, 0, 0), (.iconst 0, 1, 0, 0), (.istore_n 3, 1, 0, 0)] 4 [some (.ref (o0)), some (.ref (r1)), some (.int (0)), some (.int (0))] [] w [] (by decide +kernel) (by refine qt_iconst qc_0 ?_; refine qt_istore_n (L' := [some (.ref (o0)), some (.ref (r1)), some (.int (0)), none]) rfl ?_; refine qt_iconst qc_0 ?_; refine qt_istore_n (L' := [some (.ref (o0)), some (.ref (r1)), some (.int (0)), some (.int (0))]) rfl ?_; exact qt_z rfl rfl rfl rfl rfl) trivial ?_
  exact h
theorem xX6_owedInAll_4 {d : Nat} {o0 : Nat} {r1 : Nat} {x2 : Int32} {x3 : Int32} {w : q_Sm} {Q : s_Po} {X : s_Xo} (h : vX6_owedInAll_4 d o0 r1 x2 x3 w Q X) : s_Ex (d + 1) 0 mX6_owedInAll 4 [some (.ref (o0)), some (.ref (r1)), some (.int (x2)), some (.int (x3))] [] w Q X := by
  unfold vX6_owedInAll_4 at h
  obtain ⟨ho3, h⟩ := h
  refine s_blk [(.iload_n 3, 1, 0, 0), (.aload_n 1, 1, 0, 0), (.getfield 21, 3, 2, 3)] 9 [some (.ref (o0)), some (.ref (r1)), some (.int (x2)), some (.int (x3))] [.int (w.1 r1 3), .int (x3)] w [q_id 116 2 r1] (by decide +kernel) (by refine qt_iload_n (x := x3) rfl ?_; refine qt_aload_n (r := r1) rfl ?_; refine qt_getI rfl rfl ?_; exact qt_z rfl rfl rfl rfl rfl) ho3 ?_
  refine s_icmp (cd := .ge) (off := 17) 26 (by decide +kernel) (by decide) (fun hc => ?_) (fun hc => ?_)
  · replace h := h.1 hc
    refine s_blk [(.iload_n 2, 1, 0, 0)] 27 [some (.ref (o0)), some (.ref (r1)), some (.int (x2)), some (.int (x3))] [.int (x2)] w [] (by decide +kernel) (by refine qt_iload_n (x := x2) rfl ?_; exact qt_z rfl rfl rfl rfl rfl) trivial ?_
    exact s_retI .int (by decide +kernel) rfl rfl h
  · replace h := h.2 hc
    refine s_blk [(.iload_n 2, 1, 0, 0), (.aload_n 0, 1, 0, 0), (.iload_n 3, 1, 0, 0)] 15 [some (.ref (o0)), some (.ref (r1)), some (.int (x2)), some (.int (x3))] [.int (x3), .ref (o0), .int (x2)] w [] (by decide +kernel) (by refine qt_iload_n (x := x2) rfl ?_; refine qt_aload_n (r := o0) rfl ?_; refine qt_iload_n (x := x3) rfl ?_; exact qt_z rfl rfl rfl rfl rfl) trivial ?_
    obtain ⟨hid, h⟩ := h
    refine s_callV (a := 0) (a' := 0) (As := [.int (x3)]) (id := o0) (st := [.int (x2)]) kX6_owed l_6_46 (by decide +kernel) hid rfl (Nat.le_of_ble_eq_true rfl) (s_mono h (s_I_of (fun v1 u2 h => ?_)) (fun _ _ h9 => h9))
    show s_Ex (d + 1) 0 mX6_owedInAll 18 [some (.ref (o0)), some (.ref (r1)), some (.int (x2)), some (.int (x3))] [.int (v1), .int (x2)] u2 Q X
    refine s_blk [(.iadd, 1, 0, 0), (.istore_n 2, 1, 0, 0), (.iinc 3 1, 3, 0, 0), (.goto (-19), 3, 4, 0)] 4 [some (.ref (o0)), some (.ref (r1)), some (.int (x2 + v1)), some (.int (x3 + 1))] [] u2 [] (by decide +kernel) (by refine qt_iadd ?_; refine qt_istore_n (L' := [some (.ref (o0)), some (.ref (r1)), some (.int (x2 + v1)), some (.int (x3))]) rfl ?_; refine qt_iinc (x := x3) (L' := [some (.ref (o0)), some (.ref (r1)), some (.int (x2 + v1)), some (.int (x3 + 1))]) rfl qc_1 rfl ?_; refine qt_goto ?_; exact qt_z rfl rfl rfl rfl rfl) trivial ?_
    exact h
theorem eX6_owedInAll {d : Nat} {o0 : Nat} {r1 : Nat} {w : q_Sm} {Q : s_Po} {X : s_Xo} (h : vX6_owedInAll_0 d o0 r1 w Q X) : s_Ev (d + 1) 0 mX6_owedInAll w [.ref (o0), .ref (r1)] Q X := s_of (by decide +kernel) rfl (Nat.le_of_ble_eq_true rfl) (xX6_owedInAll_0 h)
def vX6_inDefault_0 (d : Nat) (o0 : Nat) (r1 : Nat) (w : q_Sm) (Q : s_Po) (X : s_Xo) : Prop := s_Ex (d + 1) 0 mX6_inDefault 4 [some (.ref (o0)), some (.ref (r1)), some (.int (0)), some (.int (0))] [] w Q X
def vX6_inDefault_4 (d : Nat) (o0 : Nat) (r1 : Nat) (x2 : Int32) (x3 : Int32) (w : q_Sm) (Q : s_Po) (X : s_Xo) : Prop := (q_id 116 2 r1) ∧ (((w.1 r1 3) ≤ x3) → Q (some (.int (x2))) w) ∧ (¬ ((w.1 r1 3) ≤ x3) → q_id 116 6 o0 ∧ s_EvI d 0 mX6_defaulted w [.ref (o0), .int (x3)] (fun v1 u2 => s_Ex (d + 1) 0 mX6_inDefault 4 [some (.ref (o0)), some (.ref (r1)), some (.int (x2 + v1)), some (.int (x3 + 1))] [] u2 Q X) X)
theorem xX6_inDefault_0 {d : Nat} {o0 : Nat} {r1 : Nat} {w : q_Sm} {Q : s_Po} {X : s_Xo} (h : vX6_inDefault_0 d o0 r1 w Q X) : s_Ex (d + 1) 0 mX6_inDefault 0 [some (.ref (o0)), some (.ref (r1)), none, none] [] w Q X := by
  unfold vX6_inDefault_0 at h
  refine s_blk [(.iconst 0, 1, 0, 0), (.istore_n 2, 1, 0, 0), (.iconst 0, 1, 0, 0), (.istore_n 3, 1, 0, 0)] 4 [some (.ref (o0)), some (.ref (r1)), some (.int (0)), some (.int (0))] [] w [] (by decide +kernel) (by refine qt_iconst qc_0 ?_; refine qt_istore_n (L' := [some (.ref (o0)), some (.ref (r1)), some (.int (0)), none]) rfl ?_; refine qt_iconst qc_0 ?_; refine qt_istore_n (L' := [some (.ref (o0)), some (.ref (r1)), some (.int (0)), some (.int (0))]) rfl ?_; exact qt_z rfl rfl rfl rfl rfl) trivial ?_
  exact h
theorem xX6_inDefault_4 {d : Nat} {o0 : Nat} {r1 : Nat} {x2 : Int32} {x3 : Int32} {w : q_Sm} {Q : s_Po} {X : s_Xo} (h : vX6_inDefault_4 d o0 r1 x2 x3 w Q X) : s_Ex (d + 1) 0 mX6_inDefault 4 [some (.ref (o0)), some (.ref (r1)), some (.int (x2)), some (.int (x3))] [] w Q X := by
  unfold vX6_inDefault_4 at h
  obtain ⟨ho3, h⟩ := h
  refine s_blk [(.iload_n 3, 1, 0, 0), (.aload_n 1, 1, 0, 0), (.getfield 21, 3, 2, 3)] 9 [some (.ref (o0)), some (.ref (r1)), some (.int (x2)), some (.int (x3))] [.int (w.1 r1 3), .int (x3)] w [q_id 116 2 r1] (by decide +kernel) (by refine qt_iload_n (x := x3) rfl ?_; refine qt_aload_n (r := r1) rfl ?_; refine qt_getI rfl rfl ?_; exact qt_z rfl rfl rfl rfl rfl) ho3 ?_
  refine s_icmp (cd := .ge) (off := 17) 26 (by decide +kernel) (by decide) (fun hc => ?_) (fun hc => ?_)
  · replace h := h.1 hc
    refine s_blk [(.iload_n 2, 1, 0, 0)] 27 [some (.ref (o0)), some (.ref (r1)), some (.int (x2)), some (.int (x3))] [.int (x2)] w [] (by decide +kernel) (by refine qt_iload_n (x := x2) rfl ?_; exact qt_z rfl rfl rfl rfl rfl) trivial ?_
    exact s_retI .int (by decide +kernel) rfl rfl h
  · replace h := h.2 hc
    refine s_blk [(.iload_n 2, 1, 0, 0), (.aload_n 0, 1, 0, 0), (.iload_n 3, 1, 0, 0)] 15 [some (.ref (o0)), some (.ref (r1)), some (.int (x2)), some (.int (x3))] [.int (x3), .ref (o0), .int (x2)] w [] (by decide +kernel) (by refine qt_iload_n (x := x2) rfl ?_; refine qt_aload_n (r := o0) rfl ?_; refine qt_iload_n (x := x3) rfl ?_; exact qt_z rfl rfl rfl rfl rfl) trivial ?_
    obtain ⟨hid, h⟩ := h
    refine s_callV (a := 0) (a' := 0) (As := [.int (x3)]) (id := o0) (st := [.int (x2)]) kX6_defaulted l_6_107 (by decide +kernel) hid rfl (Nat.le_of_ble_eq_true rfl) (s_mono h (s_I_of (fun v1 u2 h => ?_)) (fun _ _ h9 => h9))
    show s_Ex (d + 1) 0 mX6_inDefault 18 [some (.ref (o0)), some (.ref (r1)), some (.int (x2)), some (.int (x3))] [.int (v1), .int (x2)] u2 Q X
    refine s_blk [(.iadd, 1, 0, 0), (.istore_n 2, 1, 0, 0), (.iinc 3 1, 3, 0, 0), (.goto (-19), 3, 4, 0)] 4 [some (.ref (o0)), some (.ref (r1)), some (.int (x2 + v1)), some (.int (x3 + 1))] [] u2 [] (by decide +kernel) (by refine qt_iadd ?_; refine qt_istore_n (L' := [some (.ref (o0)), some (.ref (r1)), some (.int (x2 + v1)), some (.int (x3))]) rfl ?_; refine qt_iinc (x := x3) (L' := [some (.ref (o0)), some (.ref (r1)), some (.int (x2 + v1)), some (.int (x3 + 1))]) rfl qc_1 rfl ?_; refine qt_goto ?_; exact qt_z rfl rfl rfl rfl rfl) trivial ?_
    exact h
theorem eX6_inDefault {d : Nat} {o0 : Nat} {r1 : Nat} {w : q_Sm} {Q : s_Po} {X : s_Xo} (h : vX6_inDefault_0 d o0 r1 w Q X) : s_Ev (d + 1) 0 mX6_inDefault w [.ref (o0), .ref (r1)] Q X := s_of (by decide +kernel) rfl (Nat.le_of_ble_eq_true rfl) (xX6_inDefault_0 h)
def vX6_debtsTo_0 (d : Nat) (o0 : Nat) (r1 : Nat) (x2 : Int32) (w : q_Sm) (Q : s_Po) (X : s_Xo) : Prop := s_Ex (d + 1) 0 mX6_debtsTo 5 [some (.ref (o0)), some (.ref (r1)), some (.int (x2)), some (.int (0)), some (.int (0))] [] w Q X
def vX6_debtsTo_5 (d : Nat) (o0 : Nat) (r1 : Nat) (x2 : Int32) (x3 : Int32) (x4 : Int32) (w : q_Sm) (Q : s_Po) (X : s_Xo) : Prop := (q_id 116 2 r1) ∧ (((w.1 r1 3) ≤ x4) → Q (some (.int (x3))) w) ∧ (¬ ((w.1 r1 3) ≤ x4) → q_id 116 6 o0 ∧ s_EvI d 0 mX6_holder w [.ref (o0), .int (x4)] (fun v1 u2 => ((¬ v1 = x2) → s_Ex (d + 1) 0 mX6_debtsTo 5 [some (.ref (o0)), some (.ref (r1)), some (.int (x2)), some (.int (x3)), some (.int (x4 + 1))] [] u2 Q X) ∧ (¬ (¬ v1 = x2) → q_id 116 6 o0 ∧ s_EvI d 0 mX6_owed u2 [.ref (o0), .int (x4)] (fun v3 u4 => ((v3 ≤ 0) → s_Ex (d + 1) 0 mX6_debtsTo 5 [some (.ref (o0)), some (.ref (r1)), some (.int (x2)), some (.int (x3)), some (.int (x4 + 1))] [] u4 Q X) ∧ (¬ (v3 ≤ 0) → s_Ex (d + 1) 0 mX6_debtsTo 5 [some (.ref (o0)), some (.ref (r1)), some (.int (x2)), some (.int (x3 + 1)), some (.int (x4 + 1))] [] u4 Q X)) X)) X)
theorem xX6_debtsTo_0 {d : Nat} {o0 : Nat} {r1 : Nat} {x2 : Int32} {w : q_Sm} {Q : s_Po} {X : s_Xo} (h : vX6_debtsTo_0 d o0 r1 x2 w Q X) : s_Ex (d + 1) 0 mX6_debtsTo 0 [some (.ref (o0)), some (.ref (r1)), some (.int (x2)), none, none] [] w Q X := by
  unfold vX6_debtsTo_0 at h
  refine s_blk [(.iconst 0, 1, 0, 0), (.istore_n 3, 1, 0, 0), (.iconst 0, 1, 0, 0), (.istore 4, 2, 0, 0)] 5 [some (.ref (o0)), some (.ref (r1)), some (.int (x2)), some (.int (0)), some (.int (0))] [] w [] (by decide +kernel) (by refine qt_iconst qc_0 ?_; refine qt_istore_n (L' := [some (.ref (o0)), some (.ref (r1)), some (.int (x2)), some (.int (0)), none]) rfl ?_; refine qt_iconst qc_0 ?_; refine qt_istore (L' := [some (.ref (o0)), some (.ref (r1)), some (.int (x2)), some (.int (0)), some (.int (0))]) rfl ?_; exact qt_z rfl rfl rfl rfl rfl) trivial ?_
  exact h
theorem xX6_debtsTo_5 {d : Nat} {o0 : Nat} {r1 : Nat} {x2 : Int32} {x3 : Int32} {x4 : Int32} {w : q_Sm} {Q : s_Po} {X : s_Xo} (h : vX6_debtsTo_5 d o0 r1 x2 x3 x4 w Q X) : s_Ex (d + 1) 0 mX6_debtsTo 5 [some (.ref (o0)), some (.ref (r1)), some (.int (x2)), some (.int (x3)), some (.int (x4))] [] w Q X := by
  unfold vX6_debtsTo_5 at h
  obtain ⟨ho5, h⟩ := h
  refine s_blk [(.iload 4, 2, 0, 0), (.aload_n 1, 1, 0, 0), (.getfield 21, 3, 2, 3)] 11 [some (.ref (o0)), some (.ref (r1)), some (.int (x2)), some (.int (x3)), some (.int (x4))] [.int (w.1 r1 3), .int (x4)] w [q_id 116 2 r1] (by decide +kernel) (by refine qt_iload (x := x4) rfl ?_; refine qt_aload_n (r := r1) rfl ?_; refine qt_getI rfl rfl ?_; exact qt_z rfl rfl rfl rfl rfl) ho5 ?_
  refine s_icmp (cd := .ge) (off := 31) 42 (by decide +kernel) (by decide) (fun hc => ?_) (fun hc => ?_)
  · replace h := h.1 hc
    refine s_blk [(.iload_n 3, 1, 0, 0)] 43 [some (.ref (o0)), some (.ref (r1)), some (.int (x2)), some (.int (x3)), some (.int (x4))] [.int (x3)] w [] (by decide +kernel) (by refine qt_iload_n (x := x3) rfl ?_; exact qt_z rfl rfl rfl rfl rfl) trivial ?_
    exact s_retI .int (by decide +kernel) rfl rfl h
  · replace h := h.2 hc
    refine s_blk [(.aload_n 0, 1, 0, 0), (.iload 4, 2, 0, 0)] 17 [some (.ref (o0)), some (.ref (r1)), some (.int (x2)), some (.int (x3)), some (.int (x4))] [.int (x4), .ref (o0)] w [] (by decide +kernel) (by refine qt_aload_n (r := o0) rfl ?_; refine qt_iload (x := x4) rfl ?_; exact qt_z rfl rfl rfl rfl rfl) trivial ?_
    obtain ⟨hid, h⟩ := h
    refine s_callV (a := 0) (a' := 0) (As := [.int (x4)]) (id := o0) (st := []) kX6_holder l_6_59 (by decide +kernel) hid rfl (Nat.le_of_ble_eq_true rfl) (s_mono h (s_I_of (fun v1 u2 h => ?_)) (fun _ _ h9 => h9))
    show s_Ex (d + 1) 0 mX6_debtsTo 20 [some (.ref (o0)), some (.ref (r1)), some (.int (x2)), some (.int (x3)), some (.int (x4))] [.int (v1)] u2 Q X
    refine s_blk [(.iload_n 2, 1, 0, 0)] 21 [some (.ref (o0)), some (.ref (r1)), some (.int (x2)), some (.int (x3)), some (.int (x4))] [.int (x2), .int (v1)] u2 [] (by decide +kernel) (by refine qt_iload_n (x := x2) rfl ?_; exact qt_z rfl rfl rfl rfl rfl) trivial ?_
    refine s_icmp (cd := .ne) (off := 15) 36 (by decide +kernel) (by decide) (fun hc => ?_) (fun hc => ?_)
    · replace h := h.1 hc
      refine s_blk [(.iinc 4 1, 3, 0, 0), (.goto (-34), 3, 5, 0)] 5 [some (.ref (o0)), some (.ref (r1)), some (.int (x2)), some (.int (x3)), some (.int (x4 + 1))] [] u2 [] (by decide +kernel) (by refine qt_iinc (x := x4) (L' := [some (.ref (o0)), some (.ref (r1)), some (.int (x2)), some (.int (x3)), some (.int (x4 + 1))]) rfl qc_1 rfl ?_; refine qt_goto ?_; exact qt_z rfl rfl rfl rfl rfl) trivial ?_
      exact h
    · replace h := h.2 hc
      refine s_blk [(.aload_n 0, 1, 0, 0), (.iload 4, 2, 0, 0)] 27 [some (.ref (o0)), some (.ref (r1)), some (.int (x2)), some (.int (x3)), some (.int (x4))] [.int (x4), .ref (o0)] u2 [] (by decide +kernel) (by refine qt_aload_n (r := o0) rfl ?_; refine qt_iload (x := x4) rfl ?_; exact qt_z rfl rfl rfl rfl rfl) trivial ?_
      obtain ⟨hid, h⟩ := h
      refine s_callV (a := 0) (a' := 0) (As := [.int (x4)]) (id := o0) (st := []) kX6_owed l_6_46 (by decide +kernel) hid rfl (Nat.le_of_ble_eq_true rfl) (s_mono h (s_I_of (fun v3 u4 h => ?_)) (fun _ _ h9 => h9))
      show s_Ex (d + 1) 0 mX6_debtsTo 30 [some (.ref (o0)), some (.ref (r1)), some (.int (x2)), some (.int (x3)), some (.int (x4))] [.int (v3)] u4 Q X
      refine s_if (cd := .le) (off := 6) 36 (by decide +kernel) (by decide) (fun hc => ?_) (fun hc => ?_)
      · replace h := h.1 hc
        refine s_blk [(.iinc 4 1, 3, 0, 0), (.goto (-34), 3, 5, 0)] 5 [some (.ref (o0)), some (.ref (r1)), some (.int (x2)), some (.int (x3)), some (.int (x4 + 1))] [] u4 [] (by decide +kernel) (by refine qt_iinc (x := x4) (L' := [some (.ref (o0)), some (.ref (r1)), some (.int (x2)), some (.int (x3)), some (.int (x4 + 1))]) rfl qc_1 rfl ?_; refine qt_goto ?_; exact qt_z rfl rfl rfl rfl rfl) trivial ?_
        exact h
      · replace h := h.2 hc
        refine s_blk [(.iinc 3 1, 3, 0, 0), (.iinc 4 1, 3, 0, 0), (.goto (-34), 3, 5, 0)] 5 [some (.ref (o0)), some (.ref (r1)), some (.int (x2)), some (.int (x3 + 1)), some (.int (x4 + 1))] [] u4 [] (by decide +kernel) (by refine qt_iinc (x := x3) (L' := [some (.ref (o0)), some (.ref (r1)), some (.int (x2)), some (.int (x3 + 1)), some (.int (x4))]) rfl qc_1 rfl ?_; refine qt_iinc (x := x4) (L' := [some (.ref (o0)), some (.ref (r1)), some (.int (x2)), some (.int (x3 + 1)), some (.int (x4 + 1))]) rfl qc_1 rfl ?_; refine qt_goto ?_; exact qt_z rfl rfl rfl rfl rfl) trivial ?_
        exact h
theorem eX6_debtsTo {d : Nat} {o0 : Nat} {r1 : Nat} {x2 : Int32} {w : q_Sm} {Q : s_Po} {X : s_Xo} (h : vX6_debtsTo_0 d o0 r1 x2 w Q X) : s_Ev (d + 1) 0 mX6_debtsTo w [.ref (o0), .ref (r1), .int (x2)] Q X := s_of (by decide +kernel) rfl (Nat.le_of_ble_eq_true rfl) (xX6_debtsTo_0 h)
def vX6_owedTo_0 (d : Nat) (o0 : Nat) (r1 : Nat) (x2 : Int32) (w : q_Sm) (Q : s_Po) (X : s_Xo) : Prop := s_Ex (d + 1) 0 mX6_owedTo 5 [some (.ref (o0)), some (.ref (r1)), some (.int (x2)), some (.int (0)), some (.int (0))] [] w Q X
def vX6_owedTo_5 (d : Nat) (o0 : Nat) (r1 : Nat) (x2 : Int32) (x3 : Int32) (x4 : Int32) (w : q_Sm) (Q : s_Po) (X : s_Xo) : Prop := ((4 ≤ x4) → Q (some (.int (x3))) w) ∧ (¬ (4 ≤ x4) → q_id 116 6 o0 ∧ s_EvI d 0 mX6_claim w [.ref (o0), .ref (r1), .int (x2), .int (x4)] (fun v1 u2 => s_Ex (d + 1) 0 mX6_owedTo 5 [some (.ref (o0)), some (.ref (r1)), some (.int (x2)), some (.int (x3 + v1)), some (.int (x4 + 1))] [] u2 Q X) X)
theorem xX6_owedTo_0 {d : Nat} {o0 : Nat} {r1 : Nat} {x2 : Int32} {w : q_Sm} {Q : s_Po} {X : s_Xo} (h : vX6_owedTo_0 d o0 r1 x2 w Q X) : s_Ex (d + 1) 0 mX6_owedTo 0 [some (.ref (o0)), some (.ref (r1)), some (.int (x2)), none, none] [] w Q X := by
  unfold vX6_owedTo_0 at h
  refine s_blk [(.iconst 0, 1, 0, 0), (.istore_n 3, 1, 0, 0), (.iconst 0, 1, 0, 0), (.istore 4, 2, 0, 0)] 5 [some (.ref (o0)), some (.ref (r1)), some (.int (x2)), some (.int (0)), some (.int (0))] [] w [] (by decide +kernel) (by refine qt_iconst qc_0 ?_; refine qt_istore_n (L' := [some (.ref (o0)), some (.ref (r1)), some (.int (x2)), some (.int (0)), none]) rfl ?_; refine qt_iconst qc_0 ?_; refine qt_istore (L' := [some (.ref (o0)), some (.ref (r1)), some (.int (x2)), some (.int (0)), some (.int (0))]) rfl ?_; exact qt_z rfl rfl rfl rfl rfl) trivial ?_
  exact h
theorem xX6_owedTo_5 {d : Nat} {o0 : Nat} {r1 : Nat} {x2 : Int32} {x3 : Int32} {x4 : Int32} {w : q_Sm} {Q : s_Po} {X : s_Xo} (h : vX6_owedTo_5 d o0 r1 x2 x3 x4 w Q X) : s_Ex (d + 1) 0 mX6_owedTo 5 [some (.ref (o0)), some (.ref (r1)), some (.int (x2)), some (.int (x3)), some (.int (x4))] [] w Q X := by
  unfold vX6_owedTo_5 at h
  refine s_blk [(.iload 4, 2, 0, 0), (.iconst 4, 1, 0, 0)] 8 [some (.ref (o0)), some (.ref (r1)), some (.int (x2)), some (.int (x3)), some (.int (x4))] [.int (4), .int (x4)] w [] (by decide +kernel) (by refine qt_iload (x := x4) rfl ?_; refine qt_iconst qc_4 ?_; exact qt_z rfl rfl rfl rfl rfl) trivial ?_
  refine s_icmp (cd := .ge) (off := 20) 28 (by decide +kernel) (by decide) (fun hc => ?_) (fun hc => ?_)
  · replace h := h.1 hc
    refine s_blk [(.iload_n 3, 1, 0, 0)] 29 [some (.ref (o0)), some (.ref (r1)), some (.int (x2)), some (.int (x3)), some (.int (x4))] [.int (x3)] w [] (by decide +kernel) (by refine qt_iload_n (x := x3) rfl ?_; exact qt_z rfl rfl rfl rfl rfl) trivial ?_
    exact s_retI .int (by decide +kernel) rfl rfl h
  · replace h := h.2 hc
    refine s_blk [(.iload_n 3, 1, 0, 0), (.aload_n 0, 1, 0, 0), (.aload_n 1, 1, 0, 0), (.iload_n 2, 1, 0, 0), (.iload 4, 2, 0, 0)] 17 [some (.ref (o0)), some (.ref (r1)), some (.int (x2)), some (.int (x3)), some (.int (x4))] [.int (x4), .int (x2), .ref (r1), .ref (o0), .int (x3)] w [] (by decide +kernel) (by refine qt_iload_n (x := x3) rfl ?_; refine qt_aload_n (r := o0) rfl ?_; refine qt_aload_n (r := r1) rfl ?_; refine qt_iload_n (x := x2) rfl ?_; refine qt_iload (x := x4) rfl ?_; exact qt_z rfl rfl rfl rfl rfl) trivial ?_
    obtain ⟨hid, h⟩ := h
    refine s_callV (a := 0) (a' := 0) (As := [.ref (r1), .int (x2), .int (x4)]) (id := o0) (st := [.int (x3)]) kX6_claim l_6_110 (by decide +kernel) hid rfl (Nat.le_of_ble_eq_true rfl) (s_mono h (s_I_of (fun v1 u2 h => ?_)) (fun _ _ h9 => h9))
    show s_Ex (d + 1) 0 mX6_owedTo 20 [some (.ref (o0)), some (.ref (r1)), some (.int (x2)), some (.int (x3)), some (.int (x4))] [.int (v1), .int (x3)] u2 Q X
    refine s_blk [(.iadd, 1, 0, 0), (.istore_n 3, 1, 0, 0), (.iinc 4 1, 3, 0, 0), (.goto (-20), 3, 5, 0)] 5 [some (.ref (o0)), some (.ref (r1)), some (.int (x2)), some (.int (x3 + v1)), some (.int (x4 + 1))] [] u2 [] (by decide +kernel) (by refine qt_iadd ?_; refine qt_istore_n (L' := [some (.ref (o0)), some (.ref (r1)), some (.int (x2)), some (.int (x3 + v1)), some (.int (x4))]) rfl ?_; refine qt_iinc (x := x4) (L' := [some (.ref (o0)), some (.ref (r1)), some (.int (x2)), some (.int (x3 + v1)), some (.int (x4 + 1))]) rfl qc_1 rfl ?_; refine qt_goto ?_; exact qt_z rfl rfl rfl rfl rfl) trivial ?_
    exact h
theorem eX6_owedTo {d : Nat} {o0 : Nat} {r1 : Nat} {x2 : Int32} {w : q_Sm} {Q : s_Po} {X : s_Xo} (h : vX6_owedTo_0 d o0 r1 x2 w Q X) : s_Ev (d + 1) 0 mX6_owedTo w [.ref (o0), .ref (r1), .int (x2)] Q X := s_of (by decide +kernel) rfl (Nat.le_of_ble_eq_true rfl) (xX6_owedTo_0 h)
def vX6_claim_0 (d : Nat) (o0 : Nat) (r1 : Nat) (x2 : Int32) (x3 : Int32) (w : q_Sm) (Q : s_Po) (X : s_Xo) : Prop := s_Ex (d + 1) 0 mX6_claim 6 [some (.ref (o0)), some (.ref (r1)), some (.int (x2)), some (.int (x3)), some (.int (0)), some (.int (0))] [] w Q X
def vX6_claim_6 (d : Nat) (o0 : Nat) (r1 : Nat) (x2 : Int32) (x3 : Int32) (x4 : Int32) (x5 : Int32) (w : q_Sm) (Q : s_Po) (X : s_Xo) : Prop := (q_id 116 2 r1) ∧ (((w.1 r1 3) ≤ x5) → Q (some (.int (x4))) w) ∧ (¬ ((w.1 r1 3) ≤ x5) → q_id 116 6 o0 ∧ s_EvI d 0 mX6_holder w [.ref (o0), .int (x5)] (fun v1 u2 => ((¬ v1 = x2) → s_Ex (d + 1) 0 mX6_claim 6 [some (.ref (o0)), some (.ref (r1)), some (.int (x2)), some (.int (x3)), some (.int (x4)), some (.int (x5 + 1))] [] u2 Q X) ∧ (¬ (¬ v1 = x2) → (q_id 116 2 r1) ∧ (q_id 116 14 (r1 + 4)) ∧ (vp_in x5 (q_sh (r1 + 4)).2) ∧ ((¬ (u2.1 (r1 + 4) (Int32.toNatClampNeg x5)) = x3) → s_Ex (d + 1) 0 mX6_claim 6 [some (.ref (o0)), some (.ref (r1)), some (.int (x2)), some (.int (x3)), some (.int (x4)), some (.int (x5 + 1))] [] u2 Q X) ∧ (¬ (¬ (u2.1 (r1 + 4) (Int32.toNatClampNeg x5)) = x3) → q_id 116 6 o0 ∧ s_EvI d 0 mX6_owed u2 [.ref (o0), .int (x5)] (fun v3 u4 => s_Ex (d + 1) 0 mX6_claim 6 [some (.ref (o0)), some (.ref (r1)), some (.int (x2)), some (.int (x3)), some (.int (x4 + v3)), some (.int (x5 + 1))] [] u4 Q X) X))) X)
theorem xX6_claim_0 {d : Nat} {o0 : Nat} {r1 : Nat} {x2 : Int32} {x3 : Int32} {w : q_Sm} {Q : s_Po} {X : s_Xo} (h : vX6_claim_0 d o0 r1 x2 x3 w Q X) : s_Ex (d + 1) 0 mX6_claim 0 [some (.ref (o0)), some (.ref (r1)), some (.int (x2)), some (.int (x3)), none, none] [] w Q X := by
  unfold vX6_claim_0 at h
  refine s_blk [(.iconst 0, 1, 0, 0), (.istore 4, 2, 0, 0), (.iconst 0, 1, 0, 0), (.istore 5, 2, 0, 0)] 6 [some (.ref (o0)), some (.ref (r1)), some (.int (x2)), some (.int (x3)), some (.int (0)), some (.int (0))] [] w [] (by decide +kernel) (by refine qt_iconst qc_0 ?_; refine qt_istore (L' := [some (.ref (o0)), some (.ref (r1)), some (.int (x2)), some (.int (x3)), some (.int (0)), none]) rfl ?_; refine qt_iconst qc_0 ?_; refine qt_istore (L' := [some (.ref (o0)), some (.ref (r1)), some (.int (x2)), some (.int (x3)), some (.int (0)), some (.int (0))]) rfl ?_; exact qt_z rfl rfl rfl rfl rfl) trivial ?_
  exact h
theorem xX6_claim_6 {d : Nat} {o0 : Nat} {r1 : Nat} {x2 : Int32} {x3 : Int32} {x4 : Int32} {x5 : Int32} {w : q_Sm} {Q : s_Po} {X : s_Xo} (h : vX6_claim_6 d o0 r1 x2 x3 x4 x5 w Q X) : s_Ex (d + 1) 0 mX6_claim 6 [some (.ref (o0)), some (.ref (r1)), some (.int (x2)), some (.int (x3)), some (.int (x4)), some (.int (x5))] [] w Q X := by
  unfold vX6_claim_6 at h
  obtain ⟨ho8, h⟩ := h
  refine s_blk [(.iload 5, 2, 0, 0), (.aload_n 1, 1, 0, 0), (.getfield 21, 3, 2, 3)] 12 [some (.ref (o0)), some (.ref (r1)), some (.int (x2)), some (.int (x3)), some (.int (x4)), some (.int (x5))] [.int (w.1 r1 3), .int (x5)] w [q_id 116 2 r1] (by decide +kernel) (by refine qt_iload (x := x5) rfl ?_; refine qt_aload_n (r := r1) rfl ?_; refine qt_getI rfl rfl ?_; exact qt_z rfl rfl rfl rfl rfl) ho8 ?_
  refine s_icmp (cd := .ge) (off := 41) 53 (by decide +kernel) (by decide) (fun hc => ?_) (fun hc => ?_)
  · replace h := h.1 hc
    refine s_blk [(.iload 4, 2, 0, 0)] 55 [some (.ref (o0)), some (.ref (r1)), some (.int (x2)), some (.int (x3)), some (.int (x4)), some (.int (x5))] [.int (x4)] w [] (by decide +kernel) (by refine qt_iload (x := x4) rfl ?_; exact qt_z rfl rfl rfl rfl rfl) trivial ?_
    exact s_retI .int (by decide +kernel) rfl rfl h
  · replace h := h.2 hc
    refine s_blk [(.aload_n 0, 1, 0, 0), (.iload 5, 2, 0, 0)] 18 [some (.ref (o0)), some (.ref (r1)), some (.int (x2)), some (.int (x3)), some (.int (x4)), some (.int (x5))] [.int (x5), .ref (o0)] w [] (by decide +kernel) (by refine qt_aload_n (r := o0) rfl ?_; refine qt_iload (x := x5) rfl ?_; exact qt_z rfl rfl rfl rfl rfl) trivial ?_
    obtain ⟨hid, h⟩ := h
    refine s_callV (a := 0) (a' := 0) (As := [.int (x5)]) (id := o0) (st := []) kX6_holder l_6_59 (by decide +kernel) hid rfl (Nat.le_of_ble_eq_true rfl) (s_mono h (s_I_of (fun v1 u2 h => ?_)) (fun _ _ h9 => h9))
    show s_Ex (d + 1) 0 mX6_claim 21 [some (.ref (o0)), some (.ref (r1)), some (.int (x2)), some (.int (x3)), some (.int (x4)), some (.int (x5))] [.int (v1)] u2 Q X
    refine s_blk [(.iload_n 2, 1, 0, 0)] 22 [some (.ref (o0)), some (.ref (r1)), some (.int (x2)), some (.int (x3)), some (.int (x4)), some (.int (x5))] [.int (x2), .int (v1)] u2 [] (by decide +kernel) (by refine qt_iload_n (x := x2) rfl ?_; exact qt_z rfl rfl rfl rfl rfl) trivial ?_
    refine s_icmp (cd := .ne) (off := 25) 47 (by decide +kernel) (by decide) (fun hc => ?_) (fun hc => ?_)
    · replace h := h.1 hc
      refine s_blk [(.iinc 5 1, 3, 0, 0), (.goto (-44), 3, 6, 0)] 6 [some (.ref (o0)), some (.ref (r1)), some (.int (x2)), some (.int (x3)), some (.int (x4)), some (.int (x5 + 1))] [] u2 [] (by decide +kernel) (by refine qt_iinc (x := x5) (L' := [some (.ref (o0)), some (.ref (r1)), some (.int (x2)), some (.int (x3)), some (.int (x4)), some (.int (x5 + 1))]) rfl qc_1 rfl ?_; refine qt_goto ?_; exact qt_z rfl rfl rfl rfl rfl) trivial ?_
      exact h
    · replace h := h.2 hc
      obtain ⟨ho5, h⟩ := h
      obtain ⟨ho6, h⟩ := h
      obtain ⟨ho7, h⟩ := h
      refine s_blk [(.aload_n 1, 1, 0, 0), (.getfield 43, 3, 2, 5), (.iload 5, 2, 0, 0), (.iaload, 1, 0, 0), (.iload_n 3, 1, 0, 0)] 33 [some (.ref (o0)), some (.ref (r1)), some (.int (x2)), some (.int (x3)), some (.int (x4)), some (.int (x5))] [.int (x3), .int (u2.1 (r1 + 4) (Int32.toNatClampNeg x5))] u2 [q_id 116 2 r1, q_id 116 14 (r1 + 4), vp_in x5 (q_sh (r1 + 4)).2] (by decide +kernel) (by refine qt_aload_n (r := r1) rfl ?_; refine qt_getR (r := r1 + 4) rfl rfl rfl ?_; refine qt_iload (x := x5) rfl ?_; refine qt_iald ?_; refine qt_iload_n (x := x3) rfl ?_; exact qt_z rfl rfl rfl rfl rfl) ⟨ho5, ho6, ho7⟩ ?_
      refine s_icmp (cd := .ne) (off := 14) 47 (by decide +kernel) (by decide) (fun hc => ?_) (fun hc => ?_)
      · replace h := h.1 hc
        refine s_blk [(.iinc 5 1, 3, 0, 0), (.goto (-44), 3, 6, 0)] 6 [some (.ref (o0)), some (.ref (r1)), some (.int (x2)), some (.int (x3)), some (.int (x4)), some (.int (x5 + 1))] [] u2 [] (by decide +kernel) (by refine qt_iinc (x := x5) (L' := [some (.ref (o0)), some (.ref (r1)), some (.int (x2)), some (.int (x3)), some (.int (x4)), some (.int (x5 + 1))]) rfl qc_1 rfl ?_; refine qt_goto ?_; exact qt_z rfl rfl rfl rfl rfl) trivial ?_
        exact h
      · replace h := h.2 hc
        refine s_blk [(.iload 4, 2, 0, 0), (.aload_n 0, 1, 0, 0), (.iload 5, 2, 0, 0)] 41 [some (.ref (o0)), some (.ref (r1)), some (.int (x2)), some (.int (x3)), some (.int (x4)), some (.int (x5))] [.int (x5), .ref (o0), .int (x4)] u2 [] (by decide +kernel) (by refine qt_iload (x := x4) rfl ?_; refine qt_aload_n (r := o0) rfl ?_; refine qt_iload (x := x5) rfl ?_; exact qt_z rfl rfl rfl rfl rfl) trivial ?_
        obtain ⟨hid, h⟩ := h
        refine s_callV (a := 0) (a' := 0) (As := [.int (x5)]) (id := o0) (st := [.int (x4)]) kX6_owed l_6_46 (by decide +kernel) hid rfl (Nat.le_of_ble_eq_true rfl) (s_mono h (s_I_of (fun v3 u4 h => ?_)) (fun _ _ h9 => h9))
        show s_Ex (d + 1) 0 mX6_claim 44 [some (.ref (o0)), some (.ref (r1)), some (.int (x2)), some (.int (x3)), some (.int (x4)), some (.int (x5))] [.int (v3), .int (x4)] u4 Q X
        refine s_blk [(.iadd, 1, 0, 0), (.istore 4, 2, 0, 0), (.iinc 5 1, 3, 0, 0), (.goto (-44), 3, 6, 0)] 6 [some (.ref (o0)), some (.ref (r1)), some (.int (x2)), some (.int (x3)), some (.int (x4 + v3)), some (.int (x5 + 1))] [] u4 [] (by decide +kernel) (by refine qt_iadd ?_; refine qt_istore (L' := [some (.ref (o0)), some (.ref (r1)), some (.int (x2)), some (.int (x3)), some (.int (x4 + v3)), some (.int (x5))]) rfl ?_; refine qt_iinc (x := x5) (L' := [some (.ref (o0)), some (.ref (r1)), some (.int (x2)), some (.int (x3)), some (.int (x4 + v3)), some (.int (x5 + 1))]) rfl qc_1 rfl ?_; refine qt_goto ?_; exact qt_z rfl rfl rfl rfl rfl) trivial ?_
        exact h
theorem eX6_claim {d : Nat} {o0 : Nat} {r1 : Nat} {x2 : Int32} {x3 : Int32} {w : q_Sm} {Q : s_Po} {X : s_Xo} (h : vX6_claim_0 d o0 r1 x2 x3 w Q X) : s_Ev (d + 1) 0 mX6_claim w [.ref (o0), .ref (r1), .int (x2), .int (x3)] Q X := s_of (by decide +kernel) rfl (Nat.le_of_ble_eq_true rfl) (xX6_claim_0 h)
def vX6_owedOf_0 (d : Nat) (o0 : Nat) (r1 : Nat) (x2 : Int32) (w : q_Sm) (Q : s_Po) (X : s_Xo) : Prop := s_Ex (d + 1) 0 mX6_owedOf 5 [some (.ref (o0)), some (.ref (r1)), some (.int (x2)), some (.int (0)), some (.int (0))] [] w Q X
def vX6_owedOf_5 (d : Nat) (o0 : Nat) (r1 : Nat) (x2 : Int32) (x3 : Int32) (x4 : Int32) (w : q_Sm) (Q : s_Po) (X : s_Xo) : Prop := (q_id 116 2 r1) ∧ (((w.1 r1 3) ≤ x4) → Q (some (.int (x3))) w) ∧ (¬ ((w.1 r1 3) ≤ x4) → (q_id 116 2 r1) ∧ (q_id 116 14 (r1 + 4)) ∧ (vp_in x4 (q_sh (r1 + 4)).2) ∧ ((¬ (w.1 (r1 + 4) (Int32.toNatClampNeg x4)) = x2) → s_Ex (d + 1) 0 mX6_owedOf 5 [some (.ref (o0)), some (.ref (r1)), some (.int (x2)), some (.int (x3)), some (.int (x4 + 1))] [] w Q X) ∧ (¬ (¬ (w.1 (r1 + 4) (Int32.toNatClampNeg x4)) = x2) → q_id 116 6 o0 ∧ s_EvI d 0 mX6_owed w [.ref (o0), .int (x4)] (fun v1 u2 => s_Ex (d + 1) 0 mX6_owedOf 5 [some (.ref (o0)), some (.ref (r1)), some (.int (x2)), some (.int (x3 + v1)), some (.int (x4 + 1))] [] u2 Q X) X))
theorem xX6_owedOf_0 {d : Nat} {o0 : Nat} {r1 : Nat} {x2 : Int32} {w : q_Sm} {Q : s_Po} {X : s_Xo} (h : vX6_owedOf_0 d o0 r1 x2 w Q X) : s_Ex (d + 1) 0 mX6_owedOf 0 [some (.ref (o0)), some (.ref (r1)), some (.int (x2)), none, none] [] w Q X := by
  unfold vX6_owedOf_0 at h
  refine s_blk [(.iconst 0, 1, 0, 0), (.istore_n 3, 1, 0, 0), (.iconst 0, 1, 0, 0), (.istore 4, 2, 0, 0)] 5 [some (.ref (o0)), some (.ref (r1)), some (.int (x2)), some (.int (0)), some (.int (0))] [] w [] (by decide +kernel) (by refine qt_iconst qc_0 ?_; refine qt_istore_n (L' := [some (.ref (o0)), some (.ref (r1)), some (.int (x2)), some (.int (0)), none]) rfl ?_; refine qt_iconst qc_0 ?_; refine qt_istore (L' := [some (.ref (o0)), some (.ref (r1)), some (.int (x2)), some (.int (0)), some (.int (0))]) rfl ?_; exact qt_z rfl rfl rfl rfl rfl) trivial ?_
  exact h
theorem xX6_owedOf_5 {d : Nat} {o0 : Nat} {r1 : Nat} {x2 : Int32} {x3 : Int32} {x4 : Int32} {w : q_Sm} {Q : s_Po} {X : s_Xo} (h : vX6_owedOf_5 d o0 r1 x2 x3 x4 w Q X) : s_Ex (d + 1) 0 mX6_owedOf 5 [some (.ref (o0)), some (.ref (r1)), some (.int (x2)), some (.int (x3)), some (.int (x4))] [] w Q X := by
  unfold vX6_owedOf_5 at h
  obtain ⟨ho6, h⟩ := h
  refine s_blk [(.iload 4, 2, 0, 0), (.aload_n 1, 1, 0, 0), (.getfield 21, 3, 2, 3)] 11 [some (.ref (o0)), some (.ref (r1)), some (.int (x2)), some (.int (x3)), some (.int (x4))] [.int (w.1 r1 3), .int (x4)] w [q_id 116 2 r1] (by decide +kernel) (by refine qt_iload (x := x4) rfl ?_; refine qt_aload_n (r := r1) rfl ?_; refine qt_getI rfl rfl ?_; exact qt_z rfl rfl rfl rfl rfl) ho6 ?_
  refine s_icmp (cd := .ge) (off := 29) 40 (by decide +kernel) (by decide) (fun hc => ?_) (fun hc => ?_)
  · replace h := h.1 hc
    refine s_blk [(.iload_n 3, 1, 0, 0)] 41 [some (.ref (o0)), some (.ref (r1)), some (.int (x2)), some (.int (x3)), some (.int (x4))] [.int (x3)] w [] (by decide +kernel) (by refine qt_iload_n (x := x3) rfl ?_; exact qt_z rfl rfl rfl rfl rfl) trivial ?_
    exact s_retI .int (by decide +kernel) rfl rfl h
  · replace h := h.2 hc
    obtain ⟨ho3, h⟩ := h
    obtain ⟨ho4, h⟩ := h
    obtain ⟨ho5, h⟩ := h
    refine s_blk [(.aload_n 1, 1, 0, 0), (.getfield 43, 3, 2, 5), (.iload 4, 2, 0, 0), (.iaload, 1, 0, 0), (.iload_n 2, 1, 0, 0)] 22 [some (.ref (o0)), some (.ref (r1)), some (.int (x2)), some (.int (x3)), some (.int (x4))] [.int (x2), .int (w.1 (r1 + 4) (Int32.toNatClampNeg x4))] w [q_id 116 2 r1, q_id 116 14 (r1 + 4), vp_in x4 (q_sh (r1 + 4)).2] (by decide +kernel) (by refine qt_aload_n (r := r1) rfl ?_; refine qt_getR (r := r1 + 4) rfl rfl rfl ?_; refine qt_iload (x := x4) rfl ?_; refine qt_iald ?_; refine qt_iload_n (x := x2) rfl ?_; exact qt_z rfl rfl rfl rfl rfl) ⟨ho3, ho4, ho5⟩ ?_
    refine s_icmp (cd := .ne) (off := 12) 34 (by decide +kernel) (by decide) (fun hc => ?_) (fun hc => ?_)
    · replace h := h.1 hc
      refine s_blk [(.iinc 4 1, 3, 0, 0), (.goto (-32), 3, 5, 0)] 5 [some (.ref (o0)), some (.ref (r1)), some (.int (x2)), some (.int (x3)), some (.int (x4 + 1))] [] w [] (by decide +kernel) (by refine qt_iinc (x := x4) (L' := [some (.ref (o0)), some (.ref (r1)), some (.int (x2)), some (.int (x3)), some (.int (x4 + 1))]) rfl qc_1 rfl ?_; refine qt_goto ?_; exact qt_z rfl rfl rfl rfl rfl) trivial ?_
      exact h
    · replace h := h.2 hc
      refine s_blk [(.iload_n 3, 1, 0, 0), (.aload_n 0, 1, 0, 0), (.iload 4, 2, 0, 0)] 29 [some (.ref (o0)), some (.ref (r1)), some (.int (x2)), some (.int (x3)), some (.int (x4))] [.int (x4), .ref (o0), .int (x3)] w [] (by decide +kernel) (by refine qt_iload_n (x := x3) rfl ?_; refine qt_aload_n (r := o0) rfl ?_; refine qt_iload (x := x4) rfl ?_; exact qt_z rfl rfl rfl rfl rfl) trivial ?_
      obtain ⟨hid, h⟩ := h
      refine s_callV (a := 0) (a' := 0) (As := [.int (x4)]) (id := o0) (st := [.int (x3)]) kX6_owed l_6_46 (by decide +kernel) hid rfl (Nat.le_of_ble_eq_true rfl) (s_mono h (s_I_of (fun v1 u2 h => ?_)) (fun _ _ h9 => h9))
      show s_Ex (d + 1) 0 mX6_owedOf 32 [some (.ref (o0)), some (.ref (r1)), some (.int (x2)), some (.int (x3)), some (.int (x4))] [.int (v1), .int (x3)] u2 Q X
      refine s_blk [(.iadd, 1, 0, 0), (.istore_n 3, 1, 0, 0), (.iinc 4 1, 3, 0, 0), (.goto (-32), 3, 5, 0)] 5 [some (.ref (o0)), some (.ref (r1)), some (.int (x2)), some (.int (x3 + v1)), some (.int (x4 + 1))] [] u2 [] (by decide +kernel) (by refine qt_iadd ?_; refine qt_istore_n (L' := [some (.ref (o0)), some (.ref (r1)), some (.int (x2)), some (.int (x3 + v1)), some (.int (x4))]) rfl ?_; refine qt_iinc (x := x4) (L' := [some (.ref (o0)), some (.ref (r1)), some (.int (x2)), some (.int (x3 + v1)), some (.int (x4 + 1))]) rfl qc_1 rfl ?_; refine qt_goto ?_; exact qt_z rfl rfl rfl rfl rfl) trivial ?_
      exact h
theorem eX6_owedOf {d : Nat} {o0 : Nat} {r1 : Nat} {x2 : Int32} {w : q_Sm} {Q : s_Po} {X : s_Xo} (h : vX6_owedOf_0 d o0 r1 x2 w Q X) : s_Ev (d + 1) 0 mX6_owedOf w [.ref (o0), .ref (r1), .int (x2)] Q X := s_of (by decide +kernel) rfl (Nat.le_of_ble_eq_true rfl) (xX6_owedOf_0 h)
def vX6_paidOf_0 (d : Nat) (o0 : Nat) (r1 : Nat) (x2 : Int32) (w : q_Sm) (Q : s_Po) (X : s_Xo) : Prop := s_Ex (d + 1) 0 mX6_paidOf 5 [some (.ref (o0)), some (.ref (r1)), some (.int (x2)), some (.int (0)), some (.int (0))] [] w Q X
def vX6_paidOf_5 (d : Nat) (o0 : Nat) (r1 : Nat) (x2 : Int32) (x3 : Int32) (x4 : Int32) (w : q_Sm) (Q : s_Po) (X : s_Xo) : Prop := (q_id 116 2 r1) ∧ (((w.1 r1 3) ≤ x4) → Q (some (.int (x3))) w) ∧ (¬ ((w.1 r1 3) ≤ x4) → (q_id 116 2 r1) ∧ (q_id 116 14 (r1 + 4)) ∧ (vp_in x4 (q_sh (r1 + 4)).2) ∧ ((¬ (w.1 (r1 + 4) (Int32.toNatClampNeg x4)) = x2) → s_Ex (d + 1) 0 mX6_paidOf 5 [some (.ref (o0)), some (.ref (r1)), some (.int (x2)), some (.int (x3)), some (.int (x4 + 1))] [] w Q X) ∧ (¬ (¬ (w.1 (r1 + 4) (Int32.toNatClampNeg x4)) = x2) → q_id 116 6 o0 ∧ s_EvI d 0 mX6_paid w [.ref (o0), .int (x4)] (fun v1 u2 => s_Ex (d + 1) 0 mX6_paidOf 5 [some (.ref (o0)), some (.ref (r1)), some (.int (x2)), some (.int (x3 + v1)), some (.int (x4 + 1))] [] u2 Q X) X))
theorem xX6_paidOf_0 {d : Nat} {o0 : Nat} {r1 : Nat} {x2 : Int32} {w : q_Sm} {Q : s_Po} {X : s_Xo} (h : vX6_paidOf_0 d o0 r1 x2 w Q X) : s_Ex (d + 1) 0 mX6_paidOf 0 [some (.ref (o0)), some (.ref (r1)), some (.int (x2)), none, none] [] w Q X := by
  unfold vX6_paidOf_0 at h
  refine s_blk [(.iconst 0, 1, 0, 0), (.istore_n 3, 1, 0, 0), (.iconst 0, 1, 0, 0), (.istore 4, 2, 0, 0)] 5 [some (.ref (o0)), some (.ref (r1)), some (.int (x2)), some (.int (0)), some (.int (0))] [] w [] (by decide +kernel) (by refine qt_iconst qc_0 ?_; refine qt_istore_n (L' := [some (.ref (o0)), some (.ref (r1)), some (.int (x2)), some (.int (0)), none]) rfl ?_; refine qt_iconst qc_0 ?_; refine qt_istore (L' := [some (.ref (o0)), some (.ref (r1)), some (.int (x2)), some (.int (0)), some (.int (0))]) rfl ?_; exact qt_z rfl rfl rfl rfl rfl) trivial ?_
  exact h
theorem xX6_paidOf_5 {d : Nat} {o0 : Nat} {r1 : Nat} {x2 : Int32} {x3 : Int32} {x4 : Int32} {w : q_Sm} {Q : s_Po} {X : s_Xo} (h : vX6_paidOf_5 d o0 r1 x2 x3 x4 w Q X) : s_Ex (d + 1) 0 mX6_paidOf 5 [some (.ref (o0)), some (.ref (r1)), some (.int (x2)), some (.int (x3)), some (.int (x4))] [] w Q X := by
  unfold vX6_paidOf_5 at h
  obtain ⟨ho6, h⟩ := h
  refine s_blk [(.iload 4, 2, 0, 0), (.aload_n 1, 1, 0, 0), (.getfield 21, 3, 2, 3)] 11 [some (.ref (o0)), some (.ref (r1)), some (.int (x2)), some (.int (x3)), some (.int (x4))] [.int (w.1 r1 3), .int (x4)] w [q_id 116 2 r1] (by decide +kernel) (by refine qt_iload (x := x4) rfl ?_; refine qt_aload_n (r := r1) rfl ?_; refine qt_getI rfl rfl ?_; exact qt_z rfl rfl rfl rfl rfl) ho6 ?_
  refine s_icmp (cd := .ge) (off := 29) 40 (by decide +kernel) (by decide) (fun hc => ?_) (fun hc => ?_)
  · replace h := h.1 hc
    refine s_blk [(.iload_n 3, 1, 0, 0)] 41 [some (.ref (o0)), some (.ref (r1)), some (.int (x2)), some (.int (x3)), some (.int (x4))] [.int (x3)] w [] (by decide +kernel) (by refine qt_iload_n (x := x3) rfl ?_; exact qt_z rfl rfl rfl rfl rfl) trivial ?_
    exact s_retI .int (by decide +kernel) rfl rfl h
  · replace h := h.2 hc
    obtain ⟨ho3, h⟩ := h
    obtain ⟨ho4, h⟩ := h
    obtain ⟨ho5, h⟩ := h
    refine s_blk [(.aload_n 1, 1, 0, 0), (.getfield 43, 3, 2, 5), (.iload 4, 2, 0, 0), (.iaload, 1, 0, 0), (.iload_n 2, 1, 0, 0)] 22 [some (.ref (o0)), some (.ref (r1)), some (.int (x2)), some (.int (x3)), some (.int (x4))] [.int (x2), .int (w.1 (r1 + 4) (Int32.toNatClampNeg x4))] w [q_id 116 2 r1, q_id 116 14 (r1 + 4), vp_in x4 (q_sh (r1 + 4)).2] (by decide +kernel) (by refine qt_aload_n (r := r1) rfl ?_; refine qt_getR (r := r1 + 4) rfl rfl rfl ?_; refine qt_iload (x := x4) rfl ?_; refine qt_iald ?_; refine qt_iload_n (x := x2) rfl ?_; exact qt_z rfl rfl rfl rfl rfl) ⟨ho3, ho4, ho5⟩ ?_
    refine s_icmp (cd := .ne) (off := 12) 34 (by decide +kernel) (by decide) (fun hc => ?_) (fun hc => ?_)
    · replace h := h.1 hc
      refine s_blk [(.iinc 4 1, 3, 0, 0), (.goto (-32), 3, 5, 0)] 5 [some (.ref (o0)), some (.ref (r1)), some (.int (x2)), some (.int (x3)), some (.int (x4 + 1))] [] w [] (by decide +kernel) (by refine qt_iinc (x := x4) (L' := [some (.ref (o0)), some (.ref (r1)), some (.int (x2)), some (.int (x3)), some (.int (x4 + 1))]) rfl qc_1 rfl ?_; refine qt_goto ?_; exact qt_z rfl rfl rfl rfl rfl) trivial ?_
      exact h
    · replace h := h.2 hc
      refine s_blk [(.iload_n 3, 1, 0, 0), (.aload_n 0, 1, 0, 0), (.iload 4, 2, 0, 0)] 29 [some (.ref (o0)), some (.ref (r1)), some (.int (x2)), some (.int (x3)), some (.int (x4))] [.int (x4), .ref (o0), .int (x3)] w [] (by decide +kernel) (by refine qt_iload_n (x := x3) rfl ?_; refine qt_aload_n (r := o0) rfl ?_; refine qt_iload (x := x4) rfl ?_; exact qt_z rfl rfl rfl rfl rfl) trivial ?_
      obtain ⟨hid, h⟩ := h
      refine s_callV (a := 0) (a' := 0) (As := [.int (x4)]) (id := o0) (st := [.int (x3)]) kX6_paid l_6_114 (by decide +kernel) hid rfl (Nat.le_of_ble_eq_true rfl) (s_mono h (s_I_of (fun v1 u2 h => ?_)) (fun _ _ h9 => h9))
      show s_Ex (d + 1) 0 mX6_paidOf 32 [some (.ref (o0)), some (.ref (r1)), some (.int (x2)), some (.int (x3)), some (.int (x4))] [.int (v1), .int (x3)] u2 Q X
      refine s_blk [(.iadd, 1, 0, 0), (.istore_n 3, 1, 0, 0), (.iinc 4 1, 3, 0, 0), (.goto (-32), 3, 5, 0)] 5 [some (.ref (o0)), some (.ref (r1)), some (.int (x2)), some (.int (x3 + v1)), some (.int (x4 + 1))] [] u2 [] (by decide +kernel) (by refine qt_iadd ?_; refine qt_istore_n (L' := [some (.ref (o0)), some (.ref (r1)), some (.int (x2)), some (.int (x3 + v1)), some (.int (x4))]) rfl ?_; refine qt_iinc (x := x4) (L' := [some (.ref (o0)), some (.ref (r1)), some (.int (x2)), some (.int (x3 + v1)), some (.int (x4 + 1))]) rfl qc_1 rfl ?_; refine qt_goto ?_; exact qt_z rfl rfl rfl rfl rfl) trivial ?_
      exact h
theorem eX6_paidOf {d : Nat} {o0 : Nat} {r1 : Nat} {x2 : Int32} {w : q_Sm} {Q : s_Po} {X : s_Xo} (h : vX6_paidOf_0 d o0 r1 x2 w Q X) : s_Ev (d + 1) 0 mX6_paidOf w [.ref (o0), .ref (r1), .int (x2)] Q X := s_of (by decide +kernel) rfl (Nat.le_of_ble_eq_true rfl) (xX6_paidOf_0 h)
def vX8_size_0 (d : Nat) (o0 : Nat) (w : q_Sm) (Q : s_Po) (X : s_Xo) : Prop := (q_id 116 8 o0) ∧ Q (some (.int (w.1 o0 1))) w
theorem xX8_size_0 {d : Nat} {o0 : Nat} {w : q_Sm} {Q : s_Po} {X : s_Xo} (h : vX8_size_0 d o0 w Q X) : s_Ex (d + 1) 0 mX8_size 0 [some (.ref (o0))] [] w Q X := by
  unfold vX8_size_0 at h
  obtain ⟨ho1, h⟩ := h
  refine s_blk [(.aload_n 0, 1, 0, 0), (.getfield 17, 3, 8, 1)] 4 [some (.ref (o0))] [.int (w.1 o0 1)] w [q_id 116 8 o0] (by decide +kernel) (by refine qt_aload_n (r := o0) rfl ?_; refine qt_getI rfl rfl ?_; exact qt_z rfl rfl rfl rfl rfl) ho1 ?_
  exact s_retI .int (by decide +kernel) rfl rfl h
theorem eX8_size {d : Nat} {o0 : Nat} {w : q_Sm} {Q : s_Po} {X : s_Xo} (h : vX8_size_0 d o0 w Q X) : s_Ev (d + 1) 0 mX8_size w [.ref (o0)] Q X := s_of (by decide +kernel) rfl (Nat.le_of_ble_eq_true rfl) (xX8_size_0 h)
