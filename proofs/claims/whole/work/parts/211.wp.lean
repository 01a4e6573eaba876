def vX11_startAnew_0 (d : Nat)  (w : q_Sm) (Q : s_Po) (X : s_Xo) : Prop := q_id 116 5 (w.2.2.2.2.1) ∧ s_EvV d 0 mX5_setPlain w [.ref (w.2.2.2.2.1)] (fun u2 => q_id 116 1 (u2.2.2.2.2.2.2.1) ∧ s_EvV d 0 mX1_clear u2 [.ref (u2.2.2.2.2.2.2.1)] (fun u4 => s_EvV d 0 mX8_clear u4 [.ref (58)] (fun u6 => ∀ w_7 : q_Sm, w_7 = q_wI u6 1 11 0 → ∀ w_8 : q_Sm, w_8 = q_wI w_7 1 12 0 → s_EvV d 0 mX6_start w_8 [.ref (56), .ref (w_8.2.2.1)] (fun u10 => s_EvV d 0 mX7_match u10 [.ref (73), .ref (u10.2.2.1)] (fun u12 => Q none u12) X) X) X) X) X
theorem xX11_startAnew_0 {d : Nat}  {w : q_Sm} {Q : s_Po} {X : s_Xo} (h : vX11_startAnew_0 d  w Q X) : s_Ex (d + 1) 0 mX11_startAnew 0 [some (.ref (1))] [] w Q X := by
  unfold vX11_startAnew_0 at h
  refine s_blk [(.aload_n 0, 1, 0, 0), (.getfield 29, 3, 11, 3)] 4 [some (.ref (1))] [.ref (w.2.2.2.2.1)] w [q_id 116 11 1] (by decide +kernel) (by refine qt_aload_n (r := 1) rfl ?_; refine qt_getR (r := w.2.2.2.2.1) rfl rfl ?_; exact qt_z rfl rfl rfl rfl rfl) (q_id_of rfl) ?_
  obtain ⟨hid, h⟩ := h
  refine s_callV (a := 0) (a' := 0) (As := []) (id := w.2.2.2.2.1) (st := []) kX5_setPlain l_11_425 (by decide +kernel) hid rfl (Nat.le_of_ble_eq_true rfl) (s_mono h (s_V_of (fun u2 h => ?_)) (fun _ _ h9 => h9))
  show s_Ex (d + 1) 0 mX11_startAnew 7 [some (.ref (1))] [] u2 Q X
  refine s_blk [(.aload_n 0, 1, 0, 0), (.getfield 39, 3, 11, 5)] 11 [some (.ref (1))] [.ref (u2.2.2.2.2.2.2.1)] u2 [q_id 116 11 1] (by decide +kernel) (by refine qt_aload_n (r := 1) rfl ?_; refine qt_getR (r := u2.2.2.2.2.2.2.1) rfl rfl ?_; exact qt_z rfl rfl rfl rfl rfl) (q_id_of rfl) ?_
  obtain ⟨hid, h⟩ := h
  refine s_callV (a := 0) (a' := 0) (As := []) (id := u2.2.2.2.2.2.2.1) (st := []) kX1_clear l_11_428 (by decide +kernel) hid rfl (Nat.le_of_ble_eq_true rfl) (s_mono h (s_V_of (fun u4 h => ?_)) (fun _ _ h9 => h9))
  show s_Ex (d + 1) 0 mX11_startAnew 14 [some (.ref (1))] [] u4 Q X
  refine s_blk [(.aload_n 0, 1, 0, 0), (.getfield 63, 3, 11, 9)] 18 [some (.ref (1))] [.ref (58)] u4 [q_id 116 11 1] (by decide +kernel) (by refine qt_aload_n (r := 1) rfl ?_; refine qt_getR (r := 58) rfl rfl ?_; exact qt_z rfl rfl rfl rfl rfl) (q_id_of rfl) ?_
  refine s_callV (a := 0) (a' := 0) (As := []) (id := 58) (st := []) kX8_clear l_11_431 (by decide +kernel) (q_id_of rfl) rfl (Nat.le_of_ble_eq_true rfl) (s_mono h (s_V_of (fun u6 h => ?_)) (fun _ _ h9 => h9))
  show s_Ex (d + 1) 0 mX11_startAnew 21 [some (.ref (1))] [] u6 Q X
  replace h := h _ rfl
  replace h := h _ rfl
  refine s_blk [(.aload_n 0, 1, 0, 0), (.iconst 0, 1, 0, 0), (.putfield 409, 3, 11, 11), (.aload_n 0, 1, 0, 0), (.iconst 0, 1, 0, 0), (.putfield 145, 3, 11, 12), (.aload_n 0, 1, 0, 0), (.getfield 56, 3, 11, 8), (.aload_n 0, 1, 0, 0), (.getfield 19, 3, 11, 1)] 39 [some (.ref (1))] [.ref ((q_wI (q_wI u6 1 11 0) 1 12 0).2.2.1), .ref (56)] (q_wI (q_wI u6 1 11 0) 1 12 0) [q_id 116 11 1, q_id 116 11 1, q_id 116 11 1, q_id 116 11 1] (by decide +kernel) (by refine qt_aload_n (r := 1) rfl ?_; refine qt_iconst qc_0 ?_; refine qt_putI rfl ?_; refine qt_aload_n (r := 1) rfl ?_; refine qt_iconst qc_0 ?_; refine qt_putI rfl ?_; refine qt_aload_n (r := 1) rfl ?_; refine qt_getR (r := 56) rfl rfl ?_; refine qt_aload_n (r := 1) rfl ?_; refine qt_getR (r := (q_wI (q_wI u6 1 11 0) 1 12 0).2.2.1) rfl rfl ?_; exact qt_z rfl rfl rfl rfl rfl) ⟨(q_id_of rfl), (q_id_of rfl), (q_id_of rfl), (q_id_of rfl)⟩ ?_
  refine s_callV (a := 0) (a' := 0) (As := [.ref ((q_wI (q_wI u6 1 11 0) 1 12 0).2.2.1)]) (id := 56) (st := []) kX6_start l_11_432 (by decide +kernel) (q_id_of rfl) rfl (Nat.le_of_ble_eq_true rfl) (s_mono h (s_V_of (fun u10 h => ?_)) (fun _ _ h9 => h9))
  show s_Ex (d + 1) 0 mX11_startAnew 42 [some (.ref (1))] [] u10 Q X
  refine s_blk [(.aload_n 0, 1, 0, 0), (.getfield 88, 3, 11, 17), (.aload_n 0, 1, 0, 0), (.getfield 19, 3, 11, 1)] 50 [some (.ref (1))] [.ref (u10.2.2.1), .ref (73)] u10 [q_id 116 11 1, q_id 116 11 1] (by decide +kernel) (by refine qt_aload_n (r := 1) rfl ?_; refine qt_getR (r := 73) rfl rfl ?_; refine qt_aload_n (r := 1) rfl ?_; refine qt_getR (r := u10.2.2.1) rfl rfl ?_; exact qt_z rfl rfl rfl rfl rfl) ⟨(q_id_of rfl), (q_id_of rfl)⟩ ?_
  refine s_callV (a := 0) (a' := 0) (As := [.ref (u10.2.2.1)]) (id := 73) (st := []) kX7_match l_11_435 (by decide +kernel) (q_id_of rfl) rfl (Nat.le_of_ble_eq_true rfl) (s_mono h (s_V_of (fun u12 h => ?_)) (fun _ _ h9 => h9))
  show s_Ex (d + 1) 0 mX11_startAnew 53 [some (.ref (1))] [] u12 Q X
  exact s_retV (by decide +kernel) rfl h
theorem eX11_startAnew {d : Nat}  {w : q_Sm} {Q : s_Po} {X : s_Xo} (h : vX11_startAnew_0 d  w Q X) : s_Ev (d + 1) 0 mX11_startAnew w [.ref (1)] Q X := s_of (by decide) rfl (Nat.le_of_ble_eq_true rfl) (xX11_startAnew_0 h)
def vX11_requireCreditor_0 (d : Nat) (x1 : Int32) (w : q_Sm) (Q : s_Po) (X : s_Xo) : Prop := (q_id 116 2 (w.2.2.1)) ∧ s_EvI d 0 mX11_isIn w [.int (x1), .int (0), .int ((w.1 (w.2.2.1) 0) - 1)] (fun v1 u2 => s_EvV d 1 mX11_requireSuch u2 [.ref (1), .int (v1)] (fun u4 => Q none u4) X) X
theorem xX11_requireCreditor_0 {d : Nat} {x1 : Int32} {w : q_Sm} {Q : s_Po} {X : s_Xo} (h : vX11_requireCreditor_0 d x1 w Q X) : s_Ex (d + 1) 1 mX11_requireCreditor 0 [some (.ref (1)), some (.int (x1))] [] w Q X := by
  unfold vX11_requireCreditor_0 at h
  obtain ⟨ho5, h⟩ := h
  refine s_blk [(.aload_n 0, 1, 0, 0), (.iload_n 1, 1, 0, 0), (.iconst 0, 1, 0, 0), (.aload_n 0, 1, 0, 0), (.getfield 19, 3, 11, 1), (.getfield 169, 3, 2, 0), (.iconst 1, 1, 0, 0), (.isub, 1, 0, 0)] 12 [some (.ref (1)), some (.int (x1))] [.int ((w.1 (w.2.2.1) 0) - 1), .int (0), .int (x1), .ref (1)] w [q_id 116 11 1, q_id 116 2 (w.2.2.1)] (by decide +kernel) (by refine qt_aload_n (r := 1) rfl ?_; refine qt_iload_n (x := x1) rfl ?_; refine qt_iconst qc_0 ?_; refine qt_aload_n (r := 1) rfl ?_; refine qt_getR (r := w.2.2.1) rfl rfl ?_; refine qt_getI rfl ?_; refine qt_iconst qc_1 ?_; refine qt_isub ?_; exact qt_z rfl rfl rfl rfl rfl) ⟨(q_id_of rfl), ho5⟩ ?_
  refine s_callS (a := 1) (a' := 0) (As := [.int (x1), .int (0), .int ((w.1 (w.2.2.1) 0) - 1)]) (st := [.ref (1)]) kX11_isIn l_11_161 (by decide +kernel) rfl (Nat.le_of_ble_eq_true rfl) (s_mono h (s_I_of (fun v1 u2 h => ?_)) (fun _ _ h9 => h9))
  show s_Ex (d + 1) 1 mX11_requireCreditor 15 [some (.ref (1)), some (.int (x1))] [.int (v1), .ref (1)] u2 Q X
  refine s_callV (a := 0) (a' := 1) (As := [.int (v1)]) (id := 1) (st := []) kX11_requireSuch l_11_441 (by decide +kernel) (q_id_of rfl) rfl (Nat.le_of_ble_eq_true rfl) (s_mono h (s_V_of (fun u4 h => ?_)) (fun _ _ h9 => h9))
  show s_Ex (d + 1) 0 mX11_requireCreditor 18 [some (.ref (1)), some (.int (x1))] [] u4 Q X
  exact s_retV (by decide +kernel) rfl h
theorem eX11_requireCreditor {d : Nat} {x1 : Int32} {w : q_Sm} {Q : s_Po} {X : s_Xo} (h : vX11_requireCreditor_0 d x1 w Q X) : s_Ev (d + 1) 1 mX11_requireCreditor w [.ref (1), .int (x1)] Q X := s_of (by decide) rfl (Nat.le_of_ble_eq_true rfl) (xX11_requireCreditor_0 h)
def vX11_requireDebt_0 (d : Nat) (x1 : Int32) (w : q_Sm) (Q : s_Po) (X : s_Xo) : Prop := (q_id 116 2 (w.2.2.1)) ∧ s_EvI d 0 mX11_isIn w [.int (x1), .int (0), .int ((w.1 (w.2.2.1) 3) - 1)] (fun v1 u2 => s_EvV d 1 mX11_requireSuch u2 [.ref (1), .int (v1)] (fun u4 => Q none u4) X) X
theorem xX11_requireDebt_0 {d : Nat} {x1 : Int32} {w : q_Sm} {Q : s_Po} {X : s_Xo} (h : vX11_requireDebt_0 d x1 w Q X) : s_Ex (d + 1) 1 mX11_requireDebt 0 [some (.ref (1)), some (.int (x1))] [] w Q X := by
  unfold vX11_requireDebt_0 at h
  obtain ⟨ho5, h⟩ := h
  refine s_blk [(.aload_n 0, 1, 0, 0), (.iload_n 1, 1, 0, 0), (.iconst 0, 1, 0, 0), (.aload_n 0, 1, 0, 0), (.getfield 19, 3, 11, 1), (.getfield 125, 3, 2, 3), (.iconst 1, 1, 0, 0), (.isub, 1, 0, 0)] 12 [some (.ref (1)), some (.int (x1))] [.int ((w.1 (w.2.2.1) 3) - 1), .int (0), .int (x1), .ref (1)] w [q_id 116 11 1, q_id 116 2 (w.2.2.1)] (by decide +kernel) (by refine qt_aload_n (r := 1) rfl ?_; refine qt_iload_n (x := x1) rfl ?_; refine qt_iconst qc_0 ?_; refine qt_aload_n (r := 1) rfl ?_; refine qt_getR (r := w.2.2.1) rfl rfl ?_; refine qt_getI rfl ?_; refine qt_iconst qc_1 ?_; refine qt_isub ?_; exact qt_z rfl rfl rfl rfl rfl) ⟨(q_id_of rfl), ho5⟩ ?_
  refine s_callS (a := 1) (a' := 0) (As := [.int (x1), .int (0), .int ((w.1 (w.2.2.1) 3) - 1)]) (st := [.ref (1)]) kX11_isIn l_11_161 (by decide +kernel) rfl (Nat.le_of_ble_eq_true rfl) (s_mono h (s_I_of (fun v1 u2 h => ?_)) (fun _ _ h9 => h9))
  show s_Ex (d + 1) 1 mX11_requireDebt 15 [some (.ref (1)), some (.int (x1))] [.int (v1), .ref (1)] u2 Q X
  refine s_callV (a := 0) (a' := 1) (As := [.int (v1)]) (id := 1) (st := []) kX11_requireSuch l_11_441 (by decide +kernel) (q_id_of rfl) rfl (Nat.le_of_ble_eq_true rfl) (s_mono h (s_V_of (fun u4 h => ?_)) (fun _ _ h9 => h9))
  show s_Ex (d + 1) 0 mX11_requireDebt 18 [some (.ref (1)), some (.int (x1))] [] u4 Q X
  exact s_retV (by decide +kernel) rfl h
theorem eX11_requireDebt {d : Nat} {x1 : Int32} {w : q_Sm} {Q : s_Po} {X : s_Xo} (h : vX11_requireDebt_0 d x1 w Q X) : s_Ev (d + 1) 1 mX11_requireDebt w [.ref (1), .int (x1)] Q X := s_of (by decide) rfl (Nat.le_of_ble_eq_true rfl) (xX11_requireDebt_0 h)
def vX11_requireWedding_0 (d : Nat) (x1 : Int32) (w : q_Sm) (Q : s_Po) (X : s_Xo) : Prop := (q_id 116 2 (w.2.2.1)) ∧ s_EvI d 0 mX11_isIn w [.int (x1), .int (0), .int ((w.1 (w.2.2.1) 14) - 1)] (fun v1 u2 => s_EvV d 1 mX11_requireSuch u2 [.ref (1), .int (v1)] (fun u4 => Q none u4) X) X
theorem xX11_requireWedding_0 {d : Nat} {x1 : Int32} {w : q_Sm} {Q : s_Po} {X : s_Xo} (h : vX11_requireWedding_0 d x1 w Q X) : s_Ex (d + 1) 1 mX11_requireWedding 0 [some (.ref (1)), some (.int (x1))] [] w Q X := by
  unfold vX11_requireWedding_0 at h
  obtain ⟨ho5, h⟩ := h
  refine s_blk [(.aload_n 0, 1, 0, 0), (.iload_n 1, 1, 0, 0), (.iconst 0, 1, 0, 0), (.aload_n 0, 1, 0, 0), (.getfield 19, 3, 11, 1), (.getfield 175, 3, 2, 14), (.iconst 1, 1, 0, 0), (.isub, 1, 0, 0)] 12 [some (.ref (1)), some (.int (x1))] [.int ((w.1 (w.2.2.1) 14) - 1), .int (0), .int (x1), .ref (1)] w [q_id 116 11 1, q_id 116 2 (w.2.2.1)] (by decide +kernel) (by refine qt_aload_n (r := 1) rfl ?_; refine qt_iload_n (x := x1) rfl ?_; refine qt_iconst qc_0 ?_; refine qt_aload_n (r := 1) rfl ?_; refine qt_getR (r := w.2.2.1) rfl rfl ?_; refine qt_getI rfl ?_; refine qt_iconst qc_1 ?_; refine qt_isub ?_; exact qt_z rfl rfl rfl rfl rfl) ⟨(q_id_of rfl), ho5⟩ ?_
  refine s_callS (a := 1) (a' := 0) (As := [.int (x1), .int (0), .int ((w.1 (w.2.2.1) 14) - 1)]) (st := [.ref (1)]) kX11_isIn l_11_161 (by decide +kernel) rfl (Nat.le_of_ble_eq_true rfl) (s_mono h (s_I_of (fun v1 u2 h => ?_)) (fun _ _ h9 => h9))
  show s_Ex (d + 1) 1 mX11_requireWedding 15 [some (.ref (1)), some (.int (x1))] [.int (v1), .ref (1)] u2 Q X
  refine s_callV (a := 0) (a' := 1) (As := [.int (v1)]) (id := 1) (st := []) kX11_requireSuch l_11_441 (by decide +kernel) (q_id_of rfl) rfl (Nat.le_of_ble_eq_true rfl) (s_mono h (s_V_of (fun u4 h => ?_)) (fun _ _ h9 => h9))
  show s_Ex (d + 1) 0 mX11_requireWedding 18 [some (.ref (1)), some (.int (x1))] [] u4 Q X
  exact s_retV (by decide +kernel) rfl h
theorem eX11_requireWedding {d : Nat} {x1 : Int32} {w : q_Sm} {Q : s_Po} {X : s_Xo} (h : vX11_requireWedding_0 d x1 w Q X) : s_Ev (d + 1) 1 mX11_requireWedding w [.ref (1), .int (x1)] Q X := s_of (by decide) rfl (Nat.le_of_ble_eq_true rfl) (xX11_requireWedding_0 h)
def vX11_isIn_0 (d : Nat) (x0 : Int32) (x1 : Int32) (x2 : Int32) (w : q_Sm) (Q : s_Po) (X : s_Xo) : Prop := ((x0 < x1) → Q (some (.int (0))) w) ∧ (¬ (x0 < x1) → ((x2 < x0) → Q (some (.int (0))) w) ∧ (¬ (x2 < x0) → Q (some (.int (1))) w))
theorem xX11_isIn_0 {d : Nat} {x0 : Int32} {x1 : Int32} {x2 : Int32} {w : q_Sm} {Q : s_Po} {X : s_Xo} (h : vX11_isIn_0 d x0 x1 x2 w Q X) : s_Ex (d + 1) 0 mX11_isIn 0 [some (.int (x0)), some (.int (x1)), some (.int (x2))] [] w Q X := by
  unfold vX11_isIn_0 at h
  refine s_blk [(.iload_n 0, 1, 0, 0), (.iload_n 1, 1, 0, 0)] 2 [some (.int (x0)), some (.int (x1)), some (.int (x2))] [.int (x1), .int (x0)] w [] (by decide +kernel) (by refine qt_iload_n (x := x0) rfl ?_; refine qt_iload_n (x := x1) rfl ?_; exact qt_z rfl rfl rfl rfl rfl) trivial ?_
  refine s_icmp (cd := .lt) (off := 12) 14 (by decide +kernel) (by decide) (fun hc => ?_) (fun hc => ?_)
  · replace h := h.1 hc
    refine s_blk [(.iconst 0, 1, 0, 0)] 15 [some (.int (x0)), some (.int (x1)), some (.int (x2))] [.int (0)] w [] (by decide +kernel) (by refine qt_iconst qc_0 ?_; exact qt_z rfl rfl rfl rfl rfl) trivial ?_
    exact s_retI .boolean (by decide +kernel) rfl rfl h
  · replace h := h.2 hc
    refine s_blk [(.iload_n 0, 1, 0, 0), (.iload_n 2, 1, 0, 0)] 7 [some (.int (x0)), some (.int (x1)), some (.int (x2))] [.int (x2), .int (x0)] w [] (by decide +kernel) (by refine qt_iload_n (x := x0) rfl ?_; refine qt_iload_n (x := x2) rfl ?_; exact qt_z rfl rfl rfl rfl rfl) trivial ?_
    refine s_icmp (cd := .gt) (off := 7) 14 (by decide +kernel) (by decide) (fun hc => ?_) (fun hc => ?_)
    · replace h := h.1 hc
      refine s_blk [(.iconst 0, 1, 0, 0)] 15 [some (.int (x0)), some (.int (x1)), some (.int (x2))] [.int (0)] w [] (by decide +kernel) (by refine qt_iconst qc_0 ?_; exact qt_z rfl rfl rfl rfl rfl) trivial ?_
      exact s_retI .boolean (by decide +kernel) rfl rfl h
    · replace h := h.2 hc
      refine s_blk [(.iconst 1, 1, 0, 0), (.goto 4, 3, 15, 0)] 15 [some (.int (x0)), some (.int (x1)), some (.int (x2))] [.int (1)] w [] (by decide +kernel) (by refine qt_iconst qc_1 ?_; refine qt_goto ?_; exact qt_z rfl rfl rfl rfl rfl) trivial ?_
      exact s_retI .boolean (by decide +kernel) rfl rfl h
theorem eX11_isIn {d : Nat} {x0 : Int32} {x1 : Int32} {x2 : Int32} {w : q_Sm} {Q : s_Po} {X : s_Xo} (h : vX11_isIn_0 d x0 x1 x2 w Q X) : s_Ev (d + 1) 0 mX11_isIn w [.int (x0), .int (x1), .int (x2)] Q X := s_of (by decide) rfl (Nat.le_of_ble_eq_true rfl) (xX11_isIn_0 h)
def vX11_isColour_0 (d : Nat) (x0 : Int32) (w : q_Sm) (Q : s_Po) (X : s_Xo) : Prop := s_EvI d 0 mX11_isIn w [.int (x0), .int (0), .int (3)] (fun v1 u2 => narrow .boolean (.int (v1)) = .int (v1) ∧ Q (some (.int (v1))) u2) X
theorem xX11_isColour_0 {d : Nat} {x0 : Int32} {w : q_Sm} {Q : s_Po} {X : s_Xo} (h : vX11_isColour_0 d x0 w Q X) : s_Ex (d + 1) 0 mX11_isColour 0 [some (.int (x0))] [] w Q X := by
  unfold vX11_isColour_0 at h
  refine s_blk [(.iload_n 0, 1, 0, 0), (.iconst 0, 1, 0, 0), (.iconst 3, 1, 0, 0)] 3 [some (.int (x0))] [.int (3), .int (0), .int (x0)] w [] (by decide +kernel) (by refine qt_iload_n (x := x0) rfl ?_; refine qt_iconst qc_0 ?_; refine qt_iconst qc_3 ?_; exact qt_z rfl rfl rfl rfl rfl) trivial ?_
  refine s_callS (a := 0) (a' := 0) (As := [.int (x0), .int (0), .int (3)]) (st := []) kX11_isIn l_11_161 (by decide +kernel) rfl (Nat.le_of_ble_eq_true rfl) (s_mono h (s_I_of (fun v1 u2 h => ?_)) (fun _ _ h9 => h9))
  show s_Ex (d + 1) 0 mX11_isColour 6 [some (.int (x0))] [.int (v1)] u2 Q X
  obtain ⟨hn, h⟩ := h
  exact s_retI .boolean (by decide +kernel) rfl hn h
theorem eX11_isColour {d : Nat} {x0 : Int32} {w : q_Sm} {Q : s_Po} {X : s_Xo} (h : vX11_isColour_0 d x0 w Q X) : s_Ev (d + 1) 0 mX11_isColour w [.int (x0)] Q X := s_of (by decide) rfl (Nat.le_of_ble_eq_true rfl) (xX11_isColour_0 h)
def vX11_isDusk_0 (d : Nat) (x0 : Int32) (w : q_Sm) (Q : s_Po) (X : s_Xo) : Prop := s_EvI d 0 mX11_isIn w [.int (x0), .int (0), .int (200)] (fun v1 u2 => narrow .boolean (.int (v1)) = .int (v1) ∧ Q (some (.int (v1))) u2) X
theorem xX11_isDusk_0 {d : Nat} {x0 : Int32} {w : q_Sm} {Q : s_Po} {X : s_Xo} (h : vX11_isDusk_0 d x0 w Q X) : s_Ex (d + 1) 0 mX11_isDusk 0 [some (.int (x0))] [] w Q X := by
  unfold vX11_isDusk_0 at h
  refine s_blk [(.iload_n 0, 1, 0, 0), (.iconst 0, 1, 0, 0), (.sipush 200, 3, 0, 0)] 5 [some (.int (x0))] [.int (200), .int (0), .int (x0)] w [] (by decide +kernel) (by refine qt_iload_n (x := x0) rfl ?_; refine qt_iconst qc_0 ?_; refine qt_sipush qs_200 ?_; exact qt_z rfl rfl rfl rfl rfl) trivial ?_
  refine s_callS (a := 0) (a' := 0) (As := [.int (x0), .int (0), .int (200)]) (st := []) kX11_isIn l_11_161 (by decide +kernel) rfl (Nat.le_of_ble_eq_true rfl) (s_mono h (s_I_of (fun v1 u2 h => ?_)) (fun _ _ h9 => h9))
  show s_Ex (d + 1) 0 mX11_isDusk 8 [some (.int (x0))] [.int (v1)] u2 Q X
  obtain ⟨hn, h⟩ := h
  exact s_retI .boolean (by decide +kernel) rfl hn h
theorem eX11_isDusk {d : Nat} {x0 : Int32} {w : q_Sm} {Q : s_Po} {X : s_Xo} (h : vX11_isDusk_0 d x0 w Q X) : s_Ev (d + 1) 0 mX11_isDusk w [.int (x0)] Q X := s_of (by decide) rfl (Nat.le_of_ble_eq_true rfl) (xX11_isDusk_0 h)
def vX11_fewestChairs_0 (d : Nat) (x1 : Int32) (x2 : Int32) (w : q_Sm) (Q : s_Po) (X : s_Xo) : Prop := q_id 116 2 (w.2.2.1) ∧ s_EvI d 0 mX2_firstSeat w [.ref (w.2.2.1), .int (x1)] (fun v1 u2 => s_Ex (d + 1) 0 mX11_fewestChairs 12 [some (.ref (1)), none, some (.int (x2)), some (.int (0)), some (.int (v1))] [] u2 Q X) X
def vX11_fewestChairs_12 (d : Nat) (x2 : Int32) (x3 : Int32) (x4 : Int32) (w : q_Sm) (Q : s_Po) (X : s_Xo) : Prop := ((x4 = (-1)) → Q (some (.int (x3))) w) ∧ (¬ (x4 = (-1)) → ((6 ≤ x3) → Q (some (.int (x3))) w) ∧ (¬ (6 ≤ x3) → q_id 116 2 (w.2.2.1) ∧ s_EvI d 0 mX2_firstSeat w [.ref (w.2.2.1), .int ((x4 + (2 * x2)) + 1)] (fun v3 u4 => s_Ex (d + 1) 0 mX11_fewestChairs 12 [some (.ref (1)), none, some (.int (x2)), some (.int (x3 + 1)), some (.int (v3))] [] u4 Q X) X))
theorem xX11_fewestChairs_0 {d : Nat} {x1 : Int32} {x2 : Int32} {w : q_Sm} {Q : s_Po} {X : s_Xo} (h : vX11_fewestChairs_0 d x1 x2 w Q X) : s_Ex (d + 1) 0 mX11_fewestChairs 0 [some (.ref (1)), some (.int (x1)), some (.int (x2)), none, none] [] w Q X := by
  unfold vX11_fewestChairs_0 at h
  refine s_blk [(.iconst 0, 1, 0, 0), (.istore_n 3, 1, 0, 0), (.aload_n 0, 1, 0, 0), (.getfield 19, 3, 11, 1), (.iload_n 1, 1, 0, 0)] 7 [some (.ref (1)), some (.int (x1)), some (.int (x2)), some (.int (0)), none] [.int (x1), .ref (w.2.2.1)] w [q_id 116 11 1] (by decide +kernel) (by refine qt_iconst qc_0 ?_; refine qt_istore_n (L' := [some (.ref (1)), some (.int (x1)), some (.int (x2)), some (.int (0)), none]) rfl ?_; refine qt_aload_n (r := 1) rfl ?_; refine qt_getR (r := w.2.2.1) rfl rfl ?_; refine qt_iload_n (x := x1) rfl ?_; exact qt_z rfl rfl rfl rfl rfl) (q_id_of rfl) ?_
  obtain ⟨hid, h⟩ := h
  refine s_callV (a := 0) (a' := 0) (As := [.int (x1)]) (id := w.2.2.1) (st := []) kX2_firstSeat l_11_447 (by decide +kernel) hid rfl (Nat.le_of_ble_eq_true rfl) (s_mono h (s_I_of (fun v1 u2 h => ?_)) (fun _ _ h9 => h9))
  show s_Ex (d + 1) 0 mX11_fewestChairs 10 [some (.ref (1)), some (.int (x1)), some (.int (x2)), some (.int (0)), none] [.int (v1)] u2 Q X
  refine s_blk [(.istore 4, 2, 0, 0), (.nop, 0, 1, 0)] 12 [some (.ref (1)), none, some (.int (x2)), some (.int (0)), some (.int (v1))] [] u2 [] (by decide +kernel) (by refine qt_istore (L' := [some (.ref (1)), some (.int (x1)), some (.int (x2)), some (.int (0)), some (.int (v1))]) rfl ?_; refine qt_nop (L' := [some (.ref (1)), none, some (.int (x2)), some (.int (0)), some (.int (v1))]) rfl ?_; exact qt_z rfl rfl rfl rfl rfl) trivial ?_
  exact h
theorem xX11_fewestChairs_12 {d : Nat} {x2 : Int32} {x3 : Int32} {x4 : Int32} {w : q_Sm} {Q : s_Po} {X : s_Xo} (h : vX11_fewestChairs_12 d x2 x3 x4 w Q X) : s_Ex (d + 1) 0 mX11_fewestChairs 12 [some (.ref (1)), none, some (.int (x2)), some (.int (x3)), some (.int (x4))] [] w Q X := by
  unfold vX11_fewestChairs_12 at h
  refine s_blk [(.iload 4, 2, 0, 0), (.iconst (-1), 1, 0, 0)] 15 [some (.ref (1)), none, some (.int (x2)), some (.int (x3)), some (.int (x4))] [.int (-1), .int (x4)] w [] (by decide +kernel) (by refine qt_iload (x := x4) rfl ?_; refine qt_iconst qc_m1 ?_; exact qt_z rfl rfl rfl rfl rfl) trivial ?_
  refine s_icmp (cd := .eq) (off := 32) 47 (by decide +kernel) (by decide) (fun hc => ?_) (fun hc => ?_)
  · replace h := h.1 hc
    refine s_blk [(.iload_n 3, 1, 0, 0)] 48 [some (.ref (1)), none, some (.int (x2)), some (.int (x3)), some (.int (x4))] [.int (x3)] w [] (by decide +kernel) (by refine qt_iload_n (x := x3) rfl ?_; exact qt_z rfl rfl rfl rfl rfl) trivial ?_
    exact s_retI .int (by decide +kernel) rfl rfl h
  · replace h := h.2 hc
    refine s_blk [(.iload_n 3, 1, 0, 0), (.bipush 6, 2, 0, 0)] 21 [some (.ref (1)), none, some (.int (x2)), some (.int (x3)), some (.int (x4))] [.int (6), .int (x3)] w [] (by decide +kernel) (by refine qt_iload_n (x := x3) rfl ?_; refine qt_bipush qb_6 ?_; exact qt_z rfl rfl rfl rfl rfl) trivial ?_
    refine s_icmp (cd := .ge) (off := 26) 47 (by decide +kernel) (by decide) (fun hc => ?_) (fun hc => ?_)
    · replace h := h.1 hc
      refine s_blk [(.iload_n 3, 1, 0, 0)] 48 [some (.ref (1)), none, some (.int (x2)), some (.int (x3)), some (.int (x4))] [.int (x3)] w [] (by decide +kernel) (by refine qt_iload_n (x := x3) rfl ?_; exact qt_z rfl rfl rfl rfl rfl) trivial ?_
      exact s_retI .int (by decide +kernel) rfl rfl h
    · replace h := h.2 hc
      refine s_blk [(.iinc 3 1, 3, 0, 0), (.aload_n 0, 1, 0, 0), (.getfield 19, 3, 11, 1), (.iload 4, 2, 0, 0), (.iconst 2, 1, 0, 0), (.iload_n 2, 1, 0, 0), (.imul, 1, 0, 0), (.iadd, 1, 0, 0), (.iconst 1, 1, 0, 0), (.iadd, 1, 0, 0)] 39 [some (.ref (1)), none, some (.int (x2)), some (.int (x3 + 1)), some (.int (x4))] [.int ((x4 + (2 * x2)) + 1), .ref (w.2.2.1)] w [q_id 116 11 1] (by decide +kernel) (by refine qt_iinc (x := x3) (L' := [some (.ref (1)), none, some (.int (x2)), some (.int (x3 + 1)), some (.int (x4))]) rfl qc_1 rfl ?_; refine qt_aload_n (r := 1) rfl ?_; refine qt_getR (r := w.2.2.1) rfl rfl ?_; refine qt_iload (x := x4) rfl ?_; refine qt_iconst qc_2 ?_; refine qt_iload_n (x := x2) rfl ?_; refine qt_imul ?_; refine qt_iadd ?_; refine qt_iconst qc_1 ?_; refine qt_iadd ?_; exact qt_z rfl rfl rfl rfl rfl) (q_id_of rfl) ?_
      obtain ⟨hid, h⟩ := h
      refine s_callV (a := 0) (a' := 0) (As := [.int ((x4 + (2 * x2)) + 1)]) (id := w.2.2.1) (st := []) kX2_firstSeat l_11_447 (by decide +kernel) hid rfl (Nat.le_of_ble_eq_true rfl) (s_mono h (s_I_of (fun v3 u4 h => ?_)) (fun _ _ h9 => h9))
      show s_Ex (d + 1) 0 mX11_fewestChairs 42 [some (.ref (1)), none, some (.int (x2)), some (.int (x3 + 1)), some (.int (x4))] [.int (v3)] u4 Q X
      refine s_blk [(.istore 4, 2, 0, 0), (.goto (-32), 3, 12, 0)] 12 [some (.ref (1)), none, some (.int (x2)), some (.int (x3 + 1)), some (.int (v3))] [] u4 [] (by decide +kernel) (by refine qt_istore (L' := [some (.ref (1)), none, some (.int (x2)), some (.int (x3 + 1)), some (.int (v3))]) rfl ?_; refine qt_goto ?_; exact qt_z rfl rfl rfl rfl rfl) trivial ?_
      exact h
theorem eX11_fewestChairs {d : Nat} {x1 : Int32} {x2 : Int32} {w : q_Sm} {Q : s_Po} {X : s_Xo} (h : vX11_fewestChairs_0 d x1 x2 w Q X) : s_Ev (d + 1) 0 mX11_fewestChairs w [.ref (1), .int (x1), .int (x2)] Q X := s_of (by decide) rfl (Nat.le_of_ble_eq_true rfl) (xX11_fewestChairs_0 h)
def vX11_levelOf_0 (d : Nat) (x1 : Int32) (x2 : Int32) (w : q_Sm) (Q : s_Po) (X : s_Xo) : Prop := s_Ex (d + 1) 0 mX11_levelOf 8 [some (.ref (1)), some (.int (x1)), some (.int (x2)), some (.int (0)), some (.int (x2)), some (.int (0)), none] [] w Q X
def vX11_levelOf_8 (d : Nat) (x1 : Int32) (x2 : Int32) (x3 : Int32) (x4 : Int32) (x5 : Int32) (w : q_Sm) (Q : s_Po) (X : s_Xo) : Prop := ((20 ≤ x5) → Q (some (.int (x3))) w) ∧ (¬ (20 ≤ x5) → ((x4 ≤ x3) → Q (some (.int (x3))) w) ∧ (¬ (x4 ≤ x3) → s_EvI d 0 mX11_givenBy w [.ref (1), .int (x3 + (((x4 - x3) + 1) / 2)), .int (x1)] (fun v1 u2 => ((x2 < v1) → s_Ex (d + 1) 0 mX11_levelOf 8 [some (.ref (1)), some (.int (x1)), some (.int (x2)), some (.int (x3)), some (.int ((x3 + (((x4 - x3) + 1) / 2)) - 1)), some (.int (x5 + 1)), none] [] u2 Q X) ∧ (¬ (x2 < v1) → s_Ex (d + 1) 0 mX11_levelOf 8 [some (.ref (1)), some (.int (x1)), some (.int (x2)), some (.int (x3 + (((x4 - x3) + 1) / 2))), some (.int (x4)), some (.int (x5 + 1)), none] [] u2 Q X)) X))
theorem xX11_levelOf_0 {d : Nat} {x1 : Int32} {x2 : Int32} {w : q_Sm} {Q : s_Po} {X : s_Xo} (h : vX11_levelOf_0 d x1 x2 w Q X) : s_Ex (d + 1) 0 mX11_levelOf 0 [some (.ref (1)), some (.int (x1)), some (.int (x2)), none, none, none, none] [] w Q X := by
  unfold vX11_levelOf_0 at h
  refine s_blk [(.iconst 0, 1, 0, 0), (.istore_n 3, 1, 0, 0), (.iload_n 2, 1, 0, 0), (.istore 4, 2, 0, 0), (.iconst 0, 1, 0, 0), (.istore 5, 2, 0, 0)] 8 [some (.ref (1)), some (.int (x1)), some (.int (x2)), some (.int (0)), some (.int (x2)), some (.int (0)), none] [] w [] (by decide +kernel) (by refine qt_iconst qc_0 ?_; refine qt_istore_n (L' := [some (.ref (1)), some (.int (x1)), some (.int (x2)), some (.int (0)), none, none, none]) rfl ?_; refine qt_iload_n (x := x2) rfl ?_; refine qt_istore (L' := [some (.ref (1)), some (.int (x1)), some (.int (x2)), some (.int (0)), some (.int (x2)), none, none]) rfl ?_; refine qt_iconst qc_0 ?_; refine qt_istore (L' := [some (.ref (1)), some (.int (x1)), some (.int (x2)), some (.int (0)), some (.int (x2)), some (.int (0)), none]) rfl ?_; exact qt_z rfl rfl rfl rfl rfl) trivial ?_
  exact h
theorem xX11_levelOf_8 {d : Nat} {x1 : Int32} {x2 : Int32} {x3 : Int32} {x4 : Int32} {x5 : Int32} {w : q_Sm} {Q : s_Po} {X : s_Xo} (h : vX11_levelOf_8 d x1 x2 x3 x4 x5 w Q X) : s_Ex (d + 1) 0 mX11_levelOf 8 [some (.ref (1)), some (.int (x1)), some (.int (x2)), some (.int (x3)), some (.int (x4)), some (.int (x5)), none] [] w Q X := by
  unfold vX11_levelOf_8 at h
  refine s_blk [(.iload 5, 2, 0, 0), (.bipush 20, 2, 0, 0)] 12 [some (.ref (1)), some (.int (x1)), some (.int (x2)), some (.int (x3)), some (.int (x4)), some (.int (x5)), none] [.int (20), .int (x5)] w [] (by decide +kernel) (by refine qt_iload (x := x5) rfl ?_; refine qt_bipush qb_20 ?_; exact qt_z rfl rfl rfl rfl rfl) trivial ?_
  refine s_icmp (cd := .ge) (off := 50) 62 (by decide +kernel) (by decide) (fun hc => ?_) (fun hc => ?_)
  · replace h := h.1 hc
    refine s_blk [(.iload_n 3, 1, 0, 0)] 63 [some (.ref (1)), some (.int (x1)), some (.int (x2)), some (.int (x3)), some (.int (x4)), some (.int (x5)), none] [.int (x3)] w [] (by decide +kernel) (by refine qt_iload_n (x := x3) rfl ?_; exact qt_z rfl rfl rfl rfl rfl) trivial ?_
    exact s_retI .int (by decide +kernel) rfl rfl h
  · replace h := h.2 hc
    refine s_blk [(.iload_n 3, 1, 0, 0), (.iload 4, 2, 0, 0)] 18 [some (.ref (1)), some (.int (x1)), some (.int (x2)), some (.int (x3)), some (.int (x4)), some (.int (x5)), none] [.int (x4), .int (x3)] w [] (by decide +kernel) (by refine qt_iload_n (x := x3) rfl ?_; refine qt_iload (x := x4) rfl ?_; exact qt_z rfl rfl rfl rfl rfl) trivial ?_
    refine s_icmp (cd := .ge) (off := 44) 62 (by decide +kernel) (by decide) (fun hc => ?_) (fun hc => ?_)
    · replace h := h.1 hc
      refine s_blk [(.iload_n 3, 1, 0, 0)] 63 [some (.ref (1)), some (.int (x1)), some (.int (x2)), some (.int (x3)), some (.int (x4)), some (.int (x5)), none] [.int (x3)] w [] (by decide +kernel) (by refine qt_iload_n (x := x3) rfl ?_; exact qt_z rfl rfl rfl rfl rfl) trivial ?_
      exact s_retI .int (by decide +kernel) rfl rfl h
    · replace h := h.2 hc
      refine s_blk [(.iload_n 3, 1, 0, 0), (.iload 4, 2, 0, 0), (.iload_n 3, 1, 0, 0), (.isub, 1, 0, 0), (.iconst 1, 1, 0, 0), (.iadd, 1, 0, 0), (.iconst 2, 1, 0, 0), (.idiv, 1, 0, 0), (.iadd, 1, 0, 0), (.istore 6, 2, 0, 0), (.aload_n 0, 1, 0, 0), (.iload 6, 2, 0, 0), (.iload_n 1, 1, 0, 0)] 37 [some (.ref (1)), some (.int (x1)), some (.int (x2)), some (.int (x3)), some (.int (x4)), some (.int (x5)), some (.int (x3 + (((x4 - x3) + 1) / 2)))] [.int (x1), .int (x3 + (((x4 - x3) + 1) / 2)), .ref (1)] w [¬ (2 : Int32) = 0] (by decide +kernel) (by refine qt_iload_n (x := x3) rfl ?_; refine qt_iload (x := x4) rfl ?_; refine qt_iload_n (x := x3) rfl ?_; refine qt_isub ?_; refine qt_iconst qc_1 ?_; refine qt_iadd ?_; refine qt_iconst qc_2 ?_; refine qt_idiv ?_; refine qt_iadd ?_; refine qt_istore (L' := [some (.ref (1)), some (.int (x1)), some (.int (x2)), some (.int (x3)), some (.int (x4)), some (.int (x5)), some (.int (x3 + (((x4 - x3) + 1) / 2)))]) rfl ?_; refine qt_aload_n (r := 1) rfl ?_; refine qt_iload (x := x3 + (((x4 - x3) + 1) / 2)) rfl ?_; refine qt_iload_n (x := x1) rfl ?_; exact qt_z rfl rfl rfl rfl rfl) (by decide) ?_
      refine s_callV (a := 0) (a' := 0) (As := [.int (x3 + (((x4 - x3) + 1) / 2)), .int (x1)]) (id := 1) (st := []) kX11_givenBy l_11_450 (by decide +kernel) (q_id_of rfl) rfl (Nat.le_of_ble_eq_true rfl) (s_mono h (s_I_of (fun v1 u2 h => ?_)) (fun _ _ h9 => h9))
      show s_Ex (d + 1) 0 mX11_levelOf 40 [some (.ref (1)), some (.int (x1)), some (.int (x2)), some (.int (x3)), some (.int (x4)), some (.int (x5)), some (.int (x3 + (((x4 - x3) + 1) / 2)))] [.int (v1)] u2 Q X
      refine s_blk [(.iload_n 2, 1, 0, 0)] 41 [some (.ref (1)), some (.int (x1)), some (.int (x2)), some (.int (x3)), some (.int (x4)), some (.int (x5)), some (.int (x3 + (((x4 - x3) + 1) / 2)))] [.int (x2), .int (v1)] u2 [] (by decide +kernel) (by refine qt_iload_n (x := x2) rfl ?_; exact qt_z rfl rfl rfl rfl rfl) trivial ?_
      refine s_icmp (cd := .gt) (off := 9) 50 (by decide +kernel) (by decide) (fun hc => ?_) (fun hc => ?_)
      · replace h := h.1 hc
        refine s_blk [(.iload 6, 2, 0, 0), (.iconst 1, 1, 0, 0), (.isub, 1, 0, 0), (.istore 4, 2, 0, 0), (.iinc 5 1, 3, 0, 0), (.goto (-51), 3, 8, 0), (.nop, 0, 6, 0)] 8 [some (.ref (1)), some (.int (x1)), some (.int (x2)), some (.int (x3)), some (.int ((x3 + (((x4 - x3) + 1) / 2)) - 1)), some (.int (x5 + 1)), none] [] u2 [] (by decide +kernel) (by refine qt_iload (x := x3 + (((x4 - x3) + 1) / 2)) rfl ?_; refine qt_iconst qc_1 ?_; refine qt_isub ?_; refine qt_istore (L' := [some (.ref (1)), some (.int (x1)), some (.int (x2)), some (.int (x3)), some (.int ((x3 + (((x4 - x3) + 1) / 2)) - 1)), some (.int (x5)), some (.int (x3 + (((x4 - x3) + 1) / 2)))]) rfl ?_; refine qt_iinc (x := x5) (L' := [some (.ref (1)), some (.int (x1)), some (.int (x2)), some (.int (x3)), some (.int ((x3 + (((x4 - x3) + 1) / 2)) - 1)), some (.int (x5 + 1)), some (.int (x3 + (((x4 - x3) + 1) / 2)))]) rfl qc_1 rfl ?_; refine qt_goto ?_; refine qt_nop (L' := [some (.ref (1)), some (.int (x1)), some (.int (x2)), some (.int (x3)), some (.int ((x3 + (((x4 - x3) + 1) / 2)) - 1)), some (.int (x5 + 1)), none]) rfl ?_; exact qt_z rfl rfl rfl rfl rfl) trivial ?_
        exact h
      · replace h := h.2 hc
        refine s_blk [(.iload 6, 2, 0, 0), (.istore_n 3, 1, 0, 0), (.goto 9, 3, 56, 0), (.iinc 5 1, 3, 0, 0), (.goto (-51), 3, 8, 0), (.nop, 0, 6, 0)] 8 [some (.ref (1)), some (.int (x1)), some (.int (x2)), some (.int (x3 + (((x4 - x3) + 1) / 2))), some (.int (x4)), some (.int (x5 + 1)), none] [] u2 [] (by decide +kernel) (by refine qt_iload (x := x3 + (((x4 - x3) + 1) / 2)) rfl ?_; refine qt_istore_n (L' := [some (.ref (1)), some (.int (x1)), some (.int (x2)), some (.int (x3 + (((x4 - x3) + 1) / 2))), some (.int (x4)), some (.int (x5)), some (.int (x3 + (((x4 - x3) + 1) / 2)))]) rfl ?_; refine qt_goto ?_; refine qt_iinc (x := x5) (L' := [some (.ref (1)), some (.int (x1)), some (.int (x2)), some (.int (x3 + (((x4 - x3) + 1) / 2))), some (.int (x4)), some (.int (x5 + 1)), some (.int (x3 + (((x4 - x3) + 1) / 2)))]) rfl qc_1 rfl ?_; refine qt_goto ?_; refine qt_nop (L' := [some (.ref (1)), some (.int (x1)), some (.int (x2)), some (.int (x3 + (((x4 - x3) + 1) / 2))), some (.int (x4)), some (.int (x5 + 1)), none]) rfl ?_; exact qt_z rfl rfl rfl rfl rfl) trivial ?_
        exact h
theorem eX11_levelOf {d : Nat} {x1 : Int32} {x2 : Int32} {w : q_Sm} {Q : s_Po} {X : s_Xo} (h : vX11_levelOf_0 d x1 x2 w Q X) : s_Ev (d + 1) 0 mX11_levelOf w [.ref (1), .int (x1), .int (x2)] Q X := s_of (by decide) rfl (Nat.le_of_ble_eq_true rfl) (xX11_levelOf_0 h)
def vX11_areSettleable_0 (d : Nat) (x0 : Int32) (x1 : Int32) (x2 : Int32) (x3 : Int32) (w : q_Sm) (Q : s_Po) (X : s_Xo) : Prop := s_EvI d 0 mX11_isIn w [.int (x0), .int (0), .int (999)] (fun v1 u2 => ((v1 = 0) → Q (some (.int (0))) u2) ∧ (¬ (v1 = 0) → s_EvI d 0 mX11_isIn u2 [.int (x1), .int (0), .int (999)] (fun v3 u4 => ((v3 = 0) → Q (some (.int (0))) u4) ∧ (¬ (v3 = 0) → s_EvI d 0 mX11_isIn u4 [.int (x2), .int (0), .int (999)] (fun v5 u6 => ((v5 = 0) → Q (some (.int (0))) u6) ∧ (¬ (v5 = 0) → s_EvI d 0 mX11_isIn u6 [.int (x3), .int (0), .int (6)] (fun v7 u8 => ((v7 = 0) → Q (some (.int (0))) u8) ∧ (¬ (v7 = 0) → Q (some (.int (1))) u8)) X)) X)) X)) X
theorem xX11_areSettleable_0 {d : Nat} {x0 : Int32} {x1 : Int32} {x2 : Int32} {x3 : Int32} {w : q_Sm} {Q : s_Po} {X : s_Xo} (h : vX11_areSettleable_0 d x0 x1 x2 x3 w Q X) : s_Ex (d + 1) 0 mX11_areSettleable 0 [some (.int (x0)), some (.int (x1)), some (.int (x2)), some (.int (x3))] [] w Q X := by
  unfold vX11_areSettleable_0 at h
  refine s_blk [(.iload_n 0, 1, 0, 0), (.iconst 0, 1, 0, 0), (.sipush 999, 3, 0, 0)] 5 [some (.int (x0)), some (.int (x1)), some (.int (x2)), some (.int (x3))] [.int (999), .int (0), .int (x0)] w [] (by decide +kernel) (by refine qt_iload_n (x := x0) rfl ?_; refine qt_iconst qc_0 ?_; refine qt_sipush qs_999 ?_; exact qt_z rfl rfl rfl rfl rfl) trivial ?_
  refine s_callS (a := 0) (a' := 0) (As := [.int (x0), .int (0), .int (999)]) (st := []) kX11_isIn l_11_161 (by decide +kernel) rfl (Nat.le_of_ble_eq_true rfl) (s_mono h (s_I_of (fun v1 u2 h => ?_)) (fun _ _ h9 => h9))
  show s_Ex (d + 1) 0 mX11_areSettleable 8 [some (.int (x0)), some (.int (x1)), some (.int (x2)), some (.int (x3))] [.int (v1)] u2 Q X
  refine s_if (cd := .eq) (off := 39) 47 (by decide +kernel) (by decide) (fun hc => ?_) (fun hc => ?_)
  · replace h := h.1 hc
    refine s_blk [(.iconst 0, 1, 0, 0)] 48 [some (.int (x0)), some (.int (x1)), some (.int (x2)), some (.int (x3))] [.int (0)] u2 [] (by decide +kernel) (by refine qt_iconst qc_0 ?_; exact qt_z rfl rfl rfl rfl rfl) trivial ?_
    exact s_retI .boolean (by decide +kernel) rfl rfl h
  · replace h := h.2 hc
    refine s_blk [(.iload_n 1, 1, 0, 0), (.iconst 0, 1, 0, 0), (.sipush 999, 3, 0, 0)] 16 [some (.int (x0)), some (.int (x1)), some (.int (x2)), some (.int (x3))] [.int (999), .int (0), .int (x1)] u2 [] (by decide +kernel) (by refine qt_iload_n (x := x1) rfl ?_; refine qt_iconst qc_0 ?_; refine qt_sipush qs_999 ?_; exact qt_z rfl rfl rfl rfl rfl) trivial ?_
    refine s_callS (a := 0) (a' := 0) (As := [.int (x1), .int (0), .int (999)]) (st := []) kX11_isIn l_11_161 (by decide +kernel) rfl (Nat.le_of_ble_eq_true rfl) (s_mono h (s_I_of (fun v3 u4 h => ?_)) (fun _ _ h9 => h9))
    show s_Ex (d + 1) 0 mX11_areSettleable 19 [some (.int (x0)), some (.int (x1)), some (.int (x2)), some (.int (x3))] [.int (v3)] u4 Q X
    refine s_if (cd := .eq) (off := 28) 47 (by decide +kernel) (by decide) (fun hc => ?_) (fun hc => ?_)
    · replace h := h.1 hc
      refine s_blk [(.iconst 0, 1, 0, 0)] 48 [some (.int (x0)), some (.int (x1)), some (.int (x2)), some (.int (x3))] [.int (0)] u4 [] (by decide +kernel) (by refine qt_iconst qc_0 ?_; exact qt_z rfl rfl rfl rfl rfl) trivial ?_
      exact s_retI .boolean (by decide +kernel) rfl rfl h
    · replace h := h.2 hc
      refine s_blk [(.iload_n 2, 1, 0, 0), (.iconst 0, 1, 0, 0), (.sipush 999, 3, 0, 0)] 27 [some (.int (x0)), some (.int (x1)), some (.int (x2)), some (.int (x3))] [.int (999), .int (0), .int (x2)] u4 [] (by decide +kernel) (by refine qt_iload_n (x := x2) rfl ?_; refine qt_iconst qc_0 ?_; refine qt_sipush qs_999 ?_; exact qt_z rfl rfl rfl rfl rfl) trivial ?_
      refine s_callS (a := 0) (a' := 0) (As := [.int (x2), .int (0), .int (999)]) (st := []) kX11_isIn l_11_161 (by decide +kernel) rfl (Nat.le_of_ble_eq_true rfl) (s_mono h (s_I_of (fun v5 u6 h => ?_)) (fun _ _ h9 => h9))
      show s_Ex (d + 1) 0 mX11_areSettleable 30 [some (.int (x0)), some (.int (x1)), some (.int (x2)), some (.int (x3))] [.int (v5)] u6 Q X
      refine s_if (cd := .eq) (off := 17) 47 (by decide +kernel) (by decide) (fun hc => ?_) (fun hc => ?_)
      · replace h := h.1 hc
        refine s_blk [(.iconst 0, 1, 0, 0)] 48 [some (.int (x0)), some (.int (x1)), some (.int (x2)), some (.int (x3))] [.int (0)] u6 [] (by decide +kernel) (by refine qt_iconst qc_0 ?_; exact qt_z rfl rfl rfl rfl rfl) trivial ?_
        exact s_retI .boolean (by decide +kernel) rfl rfl h
      · replace h := h.2 hc
        refine s_blk [(.iload_n 3, 1, 0, 0), (.iconst 0, 1, 0, 0), (.bipush 6, 2, 0, 0)] 37 [some (.int (x0)), some (.int (x1)), some (.int (x2)), some (.int (x3))] [.int (6), .int (0), .int (x3)] u6 [] (by decide +kernel) (by refine qt_iload_n (x := x3) rfl ?_; refine qt_iconst qc_0 ?_; refine qt_bipush qb_6 ?_; exact qt_z rfl rfl rfl rfl rfl) trivial ?_
        refine s_callS (a := 0) (a' := 0) (As := [.int (x3), .int (0), .int (6)]) (st := []) kX11_isIn l_11_161 (by decide +kernel) rfl (Nat.le_of_ble_eq_true rfl) (s_mono h (s_I_of (fun v7 u8 h => ?_)) (fun _ _ h9 => h9))
        show s_Ex (d + 1) 0 mX11_areSettleable 40 [some (.int (x0)), some (.int (x1)), some (.int (x2)), some (.int (x3))] [.int (v7)] u8 Q X
        refine s_if (cd := .eq) (off := 7) 47 (by decide +kernel) (by decide) (fun hc => ?_) (fun hc => ?_)
        · replace h := h.1 hc
          refine s_blk [(.iconst 0, 1, 0, 0)] 48 [some (.int (x0)), some (.int (x1)), some (.int (x2)), some (.int (x3))] [.int (0)] u8 [] (by decide +kernel) (by refine qt_iconst qc_0 ?_; exact qt_z rfl rfl rfl rfl rfl) trivial ?_
          exact s_retI .boolean (by decide +kernel) rfl rfl h
        · replace h := h.2 hc
          refine s_blk [(.iconst 1, 1, 0, 0), (.goto 4, 3, 48, 0)] 48 [some (.int (x0)), some (.int (x1)), some (.int (x2)), some (.int (x3))] [.int (1)] u8 [] (by decide +kernel) (by refine qt_iconst qc_1 ?_; refine qt_goto ?_; exact qt_z rfl rfl rfl rfl rfl) trivial ?_
          exact s_retI .boolean (by decide +kernel) rfl rfl h
theorem eX11_areSettleable {d : Nat} {x0 : Int32} {x1 : Int32} {x2 : Int32} {x3 : Int32} {w : q_Sm} {Q : s_Po} {X : s_Xo} (h : vX11_areSettleable_0 d x0 x1 x2 x3 w Q X) : s_Ev (d + 1) 0 mX11_areSettleable w [.int (x0), .int (x1), .int (x2), .int (x3)] Q X := s_of (by decide) rfl (Nat.le_of_ble_eq_true rfl) (xX11_areSettleable_0 h)
