def vX12_soon_0 (d : Nat)  (w : q_Sm) (Q : s_Po) (X : s_Xo) : Prop := ∀ w_1 : q_Sm, w_1 = q_wI w 79 0 0 → s_EvV d 0 mX12_take w_1 [.ref (79)] (fun u3 => s_Ex (d + 1) 0 mX12_soon 11 [some (.ref (79)), some (.int (0))] [] u3 Q X) X
def vX12_soon_11 (d : Nat) (x1 : Int32) (w : q_Sm) (Q : s_Po) (X : s_Xo) : Prop := ((60 < x1) → Q (some (.int (-1))) w) ∧ (¬ (60 < x1) → s_EvV d 0 mX12_paysAll w [.ref (79)] (fun u5 => s_EvI d 0 mX12_owedAll u5 [.ref (79)] (fun v6 u7 => ((¬ v6 = 0) → s_EvI d 0 mX12_goesNext u7 [.ref (79)] (fun v8 u9 => s_Ex (d + 1) 0 mX12_soon 11 [some (.ref (79)), some (.int (x1 + 1))] [] u9 Q X) X) ∧ (¬ (¬ v6 = 0) → Q (some (.int ((u7.1 104 (Int32.toNatClampNeg 62)) + x1))) u7)) X) X)
theorem xX12_soon_0 {d : Nat}  {w : q_Sm} {Q : s_Po} {X : s_Xo} (h : vX12_soon_0 d  w Q X) : s_Ex (d + 1) 0 mX12_soon 0 [some (.ref (79)), none] [] w Q X := by
  unfold vX12_soon_0 at h
  replace h := h _ rfl
  refine s_blk [(.aload_n 0, 1, 0, 0), (.iconst 0, 1, 0, 0), (.putfield 3, 3, 12, 0), (.aload_n 0, 1, 0, 0)] 6 [some (.ref (79)), none] [.ref (79)] (q_wI w 79 0 0) [q_id 116 12 79] (by decide +kernel) (by refine qt_aload_n (r := 79) rfl ?_; refine qt_iconst qc_0 ?_; refine qt_putI rfl ?_; refine qt_aload_n (r := 79) rfl ?_; exact qt_z rfl rfl rfl rfl rfl) (q_id_of rfl) ?_
  refine s_callV (a := 0) (a' := 0) (As := []) (id := 79) (st := []) kX12_take l_12_369 (by decide +kernel) (q_id_of rfl) rfl (Nat.le_of_ble_eq_true rfl) (s_mono h (s_V_of (fun u3 h => ?_)) (fun _ _ h9 => h9))
  show s_Ex (d + 1) 0 mX12_soon 9 [some (.ref (79)), none] [] u3 Q X
  refine s_blk [(.iconst 0, 1, 0, 0), (.istore_n 1, 1, 0, 0)] 11 [some (.ref (79)), some (.int (0))] [] u3 [] (by decide +kernel) (by refine qt_iconst qc_0 ?_; refine qt_istore_n (L' := [some (.ref (79)), some (.int (0))]) rfl ?_; exact qt_z rfl rfl rfl rfl rfl) trivial ?_
  exact h
theorem xX12_soon_11 {d : Nat} {x1 : Int32} {w : q_Sm} {Q : s_Po} {X : s_Xo} (h : vX12_soon_11 d x1 w Q X) : s_Ex (d + 1) 0 mX12_soon 11 [some (.ref (79)), some (.int (x1))] [] w Q X := by
  unfold vX12_soon_11 at h
  refine s_blk [(.iload_n 1, 1, 0, 0), (.bipush 60, 2, 0, 0)] 14 [some (.ref (79)), some (.int (x1))] [.int (60), .int (x1)] w [] (by decide +kernel) (by refine qt_iload_n (x := x1) rfl ?_; refine qt_bipush qb_60 ?_; exact qt_z rfl rfl rfl rfl rfl) trivial ?_
  refine s_icmp (cd := .gt) (off := 35) 49 (by decide +kernel) (by decide) (fun hc => ?_) (fun hc => ?_)
  · replace h := h.1 hc
    refine s_blk [(.iconst (-1), 1, 0, 0)] 50 [some (.ref (79)), some (.int (x1))] [.int (-1)] w [] (by decide +kernel) (by refine qt_iconst qc_m1 ?_; exact qt_z rfl rfl rfl rfl rfl) trivial ?_
    exact s_retI .int (by decide +kernel) rfl rfl h
  · replace h := h.2 hc
    refine s_blk [(.aload_n 0, 1, 0, 0)] 18 [some (.ref (79)), some (.int (x1))] [.ref (79)] w [] (by decide +kernel) (by refine qt_aload_n (r := 79) rfl ?_; exact qt_z rfl rfl rfl rfl rfl) trivial ?_
    refine s_callV (a := 0) (a' := 0) (As := []) (id := 79) (st := []) kX12_paysAll l_12_439 (by decide +kernel) (q_id_of rfl) rfl (Nat.le_of_ble_eq_true rfl) (s_mono h (s_V_of (fun u5 h => ?_)) (fun _ _ h9 => h9))
    show s_Ex (d + 1) 0 mX12_soon 21 [some (.ref (79)), some (.int (x1))] [] u5 Q X
    refine s_blk [(.aload_n 0, 1, 0, 0)] 22 [some (.ref (79)), some (.int (x1))] [.ref (79)] u5 [] (by decide +kernel) (by refine qt_aload_n (r := 79) rfl ?_; exact qt_z rfl rfl rfl rfl rfl) trivial ?_
    refine s_callV (a := 0) (a' := 0) (As := []) (id := 79) (st := []) kX12_owedAll l_12_413 (by decide +kernel) (q_id_of rfl) rfl (Nat.le_of_ble_eq_true rfl) (s_mono h (s_I_of (fun v6 u7 h => ?_)) (fun _ _ h9 => h9))
    show s_Ex (d + 1) 0 mX12_soon 25 [some (.ref (79)), some (.int (x1))] [.int (v6)] u7 Q X
    refine s_if (cd := .ne) (off := 13) 38 (by decide +kernel) (by decide) (fun hc => ?_) (fun hc => ?_)
    · replace h := h.1 hc
      refine s_blk [(.aload_n 0, 1, 0, 0)] 39 [some (.ref (79)), some (.int (x1))] [.ref (79)] u7 [] (by decide +kernel) (by refine qt_aload_n (r := 79) rfl ?_; exact qt_z rfl rfl rfl rfl rfl) trivial ?_
      refine s_callV (a := 0) (a' := 0) (As := []) (id := 79) (st := []) kX12_goesNext l_12_403 (by decide +kernel) (q_id_of rfl) rfl (Nat.le_of_ble_eq_true rfl) (s_mono h (s_I_of (fun v8 u9 h => ?_)) (fun _ _ h9 => h9))
      show s_Ex (d + 1) 0 mX12_soon 42 [some (.ref (79)), some (.int (x1))] [.int (v8)] u9 Q X
      refine s_blk [(.pop, 1, 0, 0), (.iinc 1 1, 3, 0, 0), (.goto (-35), 3, 11, 0)] 11 [some (.ref (79)), some (.int (x1 + 1))] [] u9 [] (by decide +kernel) (by refine qt_pop ?_; refine qt_iinc (x := x1) (L' := [some (.ref (79)), some (.int (x1 + 1))]) rfl qc_1 rfl ?_; refine qt_goto ?_; exact qt_z rfl rfl rfl rfl rfl) trivial ?_
      exact h
    · replace h := h.2 hc
      refine s_blk [(.aload_n 0, 1, 0, 0), (.getfield 89, 3, 12, 50), (.bipush 62, 2, 0, 0), (.iaload, 1, 0, 0), (.iload_n 1, 1, 0, 0), (.iadd, 1, 0, 0)] 37 [some (.ref (79)), some (.int (x1))] [.int ((u7.1 104 (Int32.toNatClampNeg 62)) + x1)] u7 [q_id 116 12 79, q_id 116 14 104, vp_in 62 63] (by decide +kernel) (by refine qt_aload_n (r := 79) rfl ?_; refine qt_getR (r := 104) rfl rfl rfl ?_; refine qt_bipush qb_62 ?_; refine qt_iald ?_; refine qt_iload_n (x := x1) rfl ?_; refine qt_iadd ?_; exact qt_z rfl rfl rfl rfl rfl) ⟨(q_id_of rfl), (q_id_of rfl), (q_vin rfl)⟩ ?_
      exact s_retI .int (by decide +kernel) rfl rfl h
theorem eX12_soon {d : Nat}  {w : q_Sm} {Q : s_Po} {X : s_Xo} (h : vX12_soon_0 d  w Q X) : s_Ev (d + 1) 0 mX12_soon w [.ref (79)] Q X := s_of (by decide +kernel) rfl (Nat.le_of_ble_eq_true rfl) (xX12_soon_0 h)
def vX12_left_0 (d : Nat) (x1 : Int32) (w : q_Sm) (Q : s_Po) (X : s_Xo) : Prop := ∀ w_1 : q_Sm, w_1 = q_wI w 79 0 0 → s_EvI d 0 mX12_within w_1 [.int (x1), .int (0), .int (60)] (fun v2 u3 => s_EvI d 0 mX12_may u3 [.ref (79), .int (v2), .int (1), .int (1)] (fun v4 u5 => ((¬ v4 = 0) → s_EvV d 0 mX12_take u5 [.ref (79)] (fun u7 => s_Ex (d + 1) 0 mX12_left 29 [some (.ref (79)), some (.int (x1)), some (.int (0))] [] u7 Q X) X) ∧ (¬ (¬ v4 = 0) → Q (some (.int (0))) u5)) X) X
def vX12_left_29 (d : Nat) (x1 : Int32) (x2 : Int32) (w : q_Sm) (Q : s_Po) (X : s_Xo) : Prop := ((x1 ≤ x2) → s_EvI d 0 mX12_owedAll w [.ref (79)] (fun v8 u9 => Q (some (.int (v8))) u9) X) ∧ (¬ (x1 ≤ x2) → s_EvV d 0 mX12_paysAll w [.ref (79)] (fun u11 => s_EvI d 0 mX12_goesNext u11 [.ref (79)] (fun v12 u13 => s_Ex (d + 1) 0 mX12_left 29 [some (.ref (79)), some (.int (x1)), some (.int (x2 + 1))] [] u13 Q X) X) X)
theorem xX12_left_0 {d : Nat} {x1 : Int32} {w : q_Sm} {Q : s_Po} {X : s_Xo} (h : vX12_left_0 d x1 w Q X) : s_Ex (d + 1) 0 mX12_left 0 [some (.ref (79)), some (.int (x1)), none] [] w Q X := by
  unfold vX12_left_0 at h
  replace h := h _ rfl
  refine s_blk [(.aload_n 0, 1, 0, 0), (.iconst 0, 1, 0, 0), (.putfield 3, 3, 12, 0), (.aload_n 0, 1, 0, 0), (.iload_n 1, 1, 0, 0), (.iconst 0, 1, 0, 0), (.bipush 60, 2, 0, 0)] 10 [some (.ref (79)), some (.int (x1)), none] [.int (60), .int (0), .int (x1), .ref (79)] (q_wI w 79 0 0) [q_id 116 12 79] (by decide +kernel) (by refine qt_aload_n (r := 79) rfl ?_; refine qt_iconst qc_0 ?_; refine qt_putI rfl ?_; refine qt_aload_n (r := 79) rfl ?_; refine qt_iload_n (x := x1) rfl ?_; refine qt_iconst qc_0 ?_; refine qt_bipush qb_60 ?_; exact qt_z rfl rfl rfl rfl rfl) (q_id_of rfl) ?_
  refine s_callS (a := 0) (a' := 0) (As := [.int (x1), .int (0), .int (60)]) (st := [.ref (79)]) kX12_within l_12_410 (by decide +kernel) rfl (Nat.le_of_ble_eq_true rfl) (s_mono h (s_I_of (fun v2 u3 h => ?_)) (fun _ _ h9 => h9))
  show s_Ex (d + 1) 0 mX12_left 13 [some (.ref (79)), some (.int (x1)), none] [.int (v2), .ref (79)] u3 Q X
  refine s_blk [(.iconst 1, 1, 0, 0), (.iconst 1, 1, 0, 0)] 15 [some (.ref (79)), some (.int (x1)), none] [.int (1), .int (1), .int (v2), .ref (79)] u3 [] (by decide +kernel) (by refine qt_iconst qc_1 ?_; refine qt_iconst qc_1 ?_; exact qt_z rfl rfl rfl rfl rfl) trivial ?_
  refine s_callV (a := 0) (a' := 0) (As := [.int (v2), .int (1), .int (1)]) (id := 79) (st := []) kX12_may l_12_270 (by decide +kernel) (q_id_of rfl) rfl (Nat.le_of_ble_eq_true rfl) (s_mono h (s_I_of (fun v4 u5 h => ?_)) (fun _ _ h9 => h9))
  show s_Ex (d + 1) 0 mX12_left 18 [some (.ref (79)), some (.int (x1)), none] [.int (v4)] u5 Q X
  refine s_if (cd := .ne) (off := 5) 23 (by decide +kernel) (by decide) (fun hc => ?_) (fun hc => ?_)
  · replace h := h.1 hc
    refine s_blk [(.aload_n 0, 1, 0, 0)] 24 [some (.ref (79)), some (.int (x1)), none] [.ref (79)] u5 [] (by decide +kernel) (by refine qt_aload_n (r := 79) rfl ?_; exact qt_z rfl rfl rfl rfl rfl) trivial ?_
    refine s_callV (a := 0) (a' := 0) (As := []) (id := 79) (st := []) kX12_take l_12_369 (by decide +kernel) (q_id_of rfl) rfl (Nat.le_of_ble_eq_true rfl) (s_mono h (s_V_of (fun u7 h => ?_)) (fun _ _ h9 => h9))
    show s_Ex (d + 1) 0 mX12_left 27 [some (.ref (79)), some (.int (x1)), none] [] u7 Q X
    refine s_blk [(.iconst 0, 1, 0, 0), (.istore_n 2, 1, 0, 0)] 29 [some (.ref (79)), some (.int (x1)), some (.int (0))] [] u7 [] (by decide +kernel) (by refine qt_iconst qc_0 ?_; refine qt_istore_n (L' := [some (.ref (79)), some (.int (x1)), some (.int (0))]) rfl ?_; exact qt_z rfl rfl rfl rfl rfl) trivial ?_
    exact h
  · replace h := h.2 hc
    refine s_blk [(.iconst 0, 1, 0, 0)] 22 [some (.ref (79)), some (.int (x1)), none] [.int (0)] u5 [] (by decide +kernel) (by refine qt_iconst qc_0 ?_; exact qt_z rfl rfl rfl rfl rfl) trivial ?_
    exact s_retI .int (by decide +kernel) rfl rfl h
theorem xX12_left_29 {d : Nat} {x1 : Int32} {x2 : Int32} {w : q_Sm} {Q : s_Po} {X : s_Xo} (h : vX12_left_29 d x1 x2 w Q X) : s_Ex (d + 1) 0 mX12_left 29 [some (.ref (79)), some (.int (x1)), some (.int (x2))] [] w Q X := by
  unfold vX12_left_29 at h
  refine s_blk [(.iload_n 2, 1, 0, 0), (.iload_n 1, 1, 0, 0)] 31 [some (.ref (79)), some (.int (x1)), some (.int (x2))] [.int (x1), .int (x2)] w [] (by decide +kernel) (by refine qt_iload_n (x := x2) rfl ?_; refine qt_iload_n (x := x1) rfl ?_; exact qt_z rfl rfl rfl rfl rfl) trivial ?_
  refine s_icmp (cd := .ge) (off := 18) 49 (by decide +kernel) (by decide) (fun hc => ?_) (fun hc => ?_)
  · replace h := h.1 hc
    refine s_blk [(.aload_n 0, 1, 0, 0)] 50 [some (.ref (79)), some (.int (x1)), some (.int (x2))] [.ref (79)] w [] (by decide +kernel) (by refine qt_aload_n (r := 79) rfl ?_; exact qt_z rfl rfl rfl rfl rfl) trivial ?_
    refine s_callV (a := 0) (a' := 0) (As := []) (id := 79) (st := []) kX12_owedAll l_12_413 (by decide +kernel) (q_id_of rfl) rfl (Nat.le_of_ble_eq_true rfl) (s_mono h (s_I_of (fun v8 u9 h => ?_)) (fun _ _ h9 => h9))
    show s_Ex (d + 1) 0 mX12_left 53 [some (.ref (79)), some (.int (x1)), some (.int (x2))] [.int (v8)] u9 Q X
    exact s_retI .int (by decide +kernel) rfl rfl h
  · replace h := h.2 hc
    refine s_blk [(.aload_n 0, 1, 0, 0)] 35 [some (.ref (79)), some (.int (x1)), some (.int (x2))] [.ref (79)] w [] (by decide +kernel) (by refine qt_aload_n (r := 79) rfl ?_; exact qt_z rfl rfl rfl rfl rfl) trivial ?_
    refine s_callV (a := 0) (a' := 0) (As := []) (id := 79) (st := []) kX12_paysAll l_12_439 (by decide +kernel) (q_id_of rfl) rfl (Nat.le_of_ble_eq_true rfl) (s_mono h (s_V_of (fun u11 h => ?_)) (fun _ _ h9 => h9))
    show s_Ex (d + 1) 0 mX12_left 38 [some (.ref (79)), some (.int (x1)), some (.int (x2))] [] u11 Q X
    refine s_blk [(.aload_n 0, 1, 0, 0)] 39 [some (.ref (79)), some (.int (x1)), some (.int (x2))] [.ref (79)] u11 [] (by decide +kernel) (by refine qt_aload_n (r := 79) rfl ?_; exact qt_z rfl rfl rfl rfl rfl) trivial ?_
    refine s_callV (a := 0) (a' := 0) (As := []) (id := 79) (st := []) kX12_goesNext l_12_403 (by decide +kernel) (q_id_of rfl) rfl (Nat.le_of_ble_eq_true rfl) (s_mono h (s_I_of (fun v12 u13 h => ?_)) (fun _ _ h9 => h9))
    show s_Ex (d + 1) 0 mX12_left 42 [some (.ref (79)), some (.int (x1)), some (.int (x2))] [.int (v12)] u13 Q X
    refine s_blk [(.pop, 1, 0, 0), (.iinc 2 1, 3, 0, 0), (.goto (-17), 3, 29, 0)] 29 [some (.ref (79)), some (.int (x1)), some (.int (x2 + 1))] [] u13 [] (by decide +kernel) (by refine qt_pop ?_; refine qt_iinc (x := x2) (L' := [some (.ref (79)), some (.int (x1)), some (.int (x2 + 1))]) rfl qc_1 rfl ?_; refine qt_goto ?_; exact qt_z rfl rfl rfl rfl rfl) trivial ?_
    exact h
theorem eX12_left {d : Nat} {x1 : Int32} {w : q_Sm} {Q : s_Po} {X : s_Xo} (h : vX12_left_0 d x1 w Q X) : s_Ev (d + 1) 0 mX12_left w [.ref (79), .int (x1)] Q X := s_of (by decide +kernel) rfl (Nat.le_of_ble_eq_true rfl) (xX12_left_0 h)
def vX12_delay_0 (d : Nat) (x1 : Int32) (x2 : Int32) (w : q_Sm) (Q : s_Po) (X : s_Xo) : Prop := ∀ w_1 : q_Sm, w_1 = q_wI w 79 0 0 → s_EvI d 0 mX12_isDebt w_1 [.ref (79), .int (x1), .int (1)] (fun v2 u3 => ((v2 = 0) → Q (some (.int (0))) u3) ∧ (¬ (v2 = 0) → s_EvI d 0 mX12_within u3 [.int (x2), .int (0), .int (9999)] (fun v4 u5 => s_EvI d 0 mX12_may u5 [.ref (79), .int (v4), .int (2), .int (1)] (fun v6 u7 => ((¬ v6 = 0) → s_EvV d 0 mX12_take u7 [.ref (79)] (fun u9 => (vp_in (0 + x1) 63) ∧ (((u9.1 105 (Int32.toNatClampNeg (0 + x1))) ≤ x2) → s_Ex (d + 1) 0 mX12_delay 53 [some (.ref (79)), some (.int (x1)), some (.int (x2)), some (.int (0))] [] u9 Q X) ∧ (¬ ((u9.1 105 (Int32.toNatClampNeg (0 + x1))) ≤ x2) → Q (some (.int (-1))) u9)) X) ∧ (¬ (¬ v6 = 0) → Q (some (.int (0))) u7)) X) X)) X
def vX12_delay_53 (d : Nat) (x1 : Int32) (x2 : Int32) (x3 : Int32) (w : q_Sm) (Q : s_Po) (X : s_Xo) : Prop := ((60 ≤ x3) → Q (some (.int (x3))) w) ∧ (¬ (60 ≤ x3) → s_EvV d 0 mX12_passes w [.ref (79)] (fun u12 => (vp_in (0 + x1) 63) ∧ (((u12.1 105 (Int32.toNatClampNeg (0 + x1))) ≤ x2) → s_Ex (d + 1) 0 mX12_delay 53 [some (.ref (79)), some (.int (x1)), some (.int (x2)), some (.int (x3 + 1))] [] u12 Q X) ∧ (¬ ((u12.1 105 (Int32.toNatClampNeg (0 + x1))) ≤ x2) → Q (some (.int (x3))) u12)) X)
theorem xX12_delay_0 {d : Nat} {x1 : Int32} {x2 : Int32} {w : q_Sm} {Q : s_Po} {X : s_Xo} (h : vX12_delay_0 d x1 x2 w Q X) : s_Ex (d + 1) 0 mX12_delay 0 [some (.ref (79)), some (.int (x1)), some (.int (x2)), none] [] w Q X := by
  unfold vX12_delay_0 at h
  replace h := h _ rfl
  refine s_blk [(.aload_n 0, 1, 0, 0), (.iconst 0, 1, 0, 0), (.putfield 3, 3, 12, 0), (.aload_n 0, 1, 0, 0), (.iload_n 1, 1, 0, 0), (.iconst 1, 1, 0, 0)] 8 [some (.ref (79)), some (.int (x1)), some (.int (x2)), none] [.int (1), .int (x1), .ref (79)] (q_wI w 79 0 0) [q_id 116 12 79] (by decide +kernel) (by refine qt_aload_n (r := 79) rfl ?_; refine qt_iconst qc_0 ?_; refine qt_putI rfl ?_; refine qt_aload_n (r := 79) rfl ?_; refine qt_iload_n (x := x1) rfl ?_; refine qt_iconst qc_1 ?_; exact qt_z rfl rfl rfl rfl rfl) (q_id_of rfl) ?_
  refine s_callV (a := 0) (a' := 0) (As := [.int (x1), .int (1)]) (id := 79) (st := []) kX12_isDebt l_12_424 (by decide +kernel) (q_id_of rfl) rfl (Nat.le_of_ble_eq_true rfl) (s_mono h (s_I_of (fun v2 u3 h => ?_)) (fun _ _ h9 => h9))
  show s_Ex (d + 1) 0 mX12_delay 11 [some (.ref (79)), some (.int (x1)), some (.int (x2)), none] [.int (v2)] u3 Q X
  refine s_if (cd := .eq) (off := 20) 31 (by decide +kernel) (by decide) (fun hc => ?_) (fun hc => ?_)
  · replace h := h.1 hc
    refine s_blk [(.iconst 0, 1, 0, 0)] 32 [some (.ref (79)), some (.int (x1)), some (.int (x2)), none] [.int (0)] u3 [] (by decide +kernel) (by refine qt_iconst qc_0 ?_; exact qt_z rfl rfl rfl rfl rfl) trivial ?_
    exact s_retI .int (by decide +kernel) rfl rfl h
  · replace h := h.2 hc
    refine s_blk [(.aload_n 0, 1, 0, 0), (.iload_n 2, 1, 0, 0), (.iconst 0, 1, 0, 0), (.sipush 9999, 3, 0, 0)] 20 [some (.ref (79)), some (.int (x1)), some (.int (x2)), none] [.int (9999), .int (0), .int (x2), .ref (79)] u3 [] (by decide +kernel) (by refine qt_aload_n (r := 79) rfl ?_; refine qt_iload_n (x := x2) rfl ?_; refine qt_iconst qc_0 ?_; refine qt_sipush qs_9999 ?_; exact qt_z rfl rfl rfl rfl rfl) trivial ?_
    refine s_callS (a := 0) (a' := 0) (As := [.int (x2), .int (0), .int (9999)]) (st := [.ref (79)]) kX12_within l_12_410 (by decide +kernel) rfl (Nat.le_of_ble_eq_true rfl) (s_mono h (s_I_of (fun v4 u5 h => ?_)) (fun _ _ h9 => h9))
    show s_Ex (d + 1) 0 mX12_delay 23 [some (.ref (79)), some (.int (x1)), some (.int (x2)), none] [.int (v4), .ref (79)] u5 Q X
    refine s_blk [(.iconst 2, 1, 0, 0), (.iconst 1, 1, 0, 0)] 25 [some (.ref (79)), some (.int (x1)), some (.int (x2)), none] [.int (1), .int (2), .int (v4), .ref (79)] u5 [] (by decide +kernel) (by refine qt_iconst qc_2 ?_; refine qt_iconst qc_1 ?_; exact qt_z rfl rfl rfl rfl rfl) trivial ?_
    refine s_callV (a := 0) (a' := 0) (As := [.int (v4), .int (2), .int (1)]) (id := 79) (st := []) kX12_may l_12_270 (by decide +kernel) (q_id_of rfl) rfl (Nat.le_of_ble_eq_true rfl) (s_mono h (s_I_of (fun v6 u7 h => ?_)) (fun _ _ h9 => h9))
    show s_Ex (d + 1) 0 mX12_delay 28 [some (.ref (79)), some (.int (x1)), some (.int (x2)), none] [.int (v6)] u7 Q X
    refine s_if (cd := .ne) (off := 5) 33 (by decide +kernel) (by decide) (fun hc => ?_) (fun hc => ?_)
    · replace h := h.1 hc
      refine s_blk [(.aload_n 0, 1, 0, 0)] 34 [some (.ref (79)), some (.int (x1)), some (.int (x2)), none] [.ref (79)] u7 [] (by decide +kernel) (by refine qt_aload_n (r := 79) rfl ?_; exact qt_z rfl rfl rfl rfl rfl) trivial ?_
      refine s_callV (a := 0) (a' := 0) (As := []) (id := 79) (st := []) kX12_take l_12_369 (by decide +kernel) (q_id_of rfl) rfl (Nat.le_of_ble_eq_true rfl) (s_mono h (s_V_of (fun u9 h => ?_)) (fun _ _ h9 => h9))
      show s_Ex (d + 1) 0 mX12_delay 37 [some (.ref (79)), some (.int (x1)), some (.int (x2)), none] [] u9 Q X
      obtain ⟨ho10, h⟩ := h
      refine s_blk [(.aload_n 0, 1, 0, 0), (.getfield 92, 3, 12, 51), (.iconst 0, 1, 0, 0), (.iload_n 1, 1, 0, 0), (.iadd, 1, 0, 0), (.iaload, 1, 0, 0), (.iload_n 2, 1, 0, 0)] 46 [some (.ref (79)), some (.int (x1)), some (.int (x2)), none] [.int (x2), .int (u9.1 105 (Int32.toNatClampNeg (0 + x1)))] u9 [q_id 116 12 79, q_id 116 14 105, vp_in (0 + x1) 63] (by decide +kernel) (by refine qt_aload_n (r := 79) rfl ?_; refine qt_getR (r := 105) rfl rfl rfl ?_; refine qt_iconst qc_0 ?_; refine qt_iload_n (x := x1) rfl ?_; refine qt_iadd ?_; refine qt_iald ?_; refine qt_iload_n (x := x2) rfl ?_; exact qt_z rfl rfl rfl rfl rfl) ⟨(q_id_of rfl), (q_id_of rfl), ho10⟩ ?_
      refine s_icmp (cd := .le) (off := 5) 51 (by decide +kernel) (by decide) (fun hc => ?_) (fun hc => ?_)
      · replace h := h.1 hc
        refine s_blk [(.iconst 0, 1, 0, 0), (.istore_n 3, 1, 0, 0)] 53 [some (.ref (79)), some (.int (x1)), some (.int (x2)), some (.int (0))] [] u9 [] (by decide +kernel) (by refine qt_iconst qc_0 ?_; refine qt_istore_n (L' := [some (.ref (79)), some (.int (x1)), some (.int (x2)), some (.int (0))]) rfl ?_; exact qt_z rfl rfl rfl rfl rfl) trivial ?_
        exact h
      · replace h := h.2 hc
        refine s_blk [(.iconst (-1), 1, 0, 0)] 50 [some (.ref (79)), some (.int (x1)), some (.int (x2)), none] [.int (-1)] u9 [] (by decide +kernel) (by refine qt_iconst qc_m1 ?_; exact qt_z rfl rfl rfl rfl rfl) trivial ?_
        exact s_retI .int (by decide +kernel) rfl rfl h
    · replace h := h.2 hc
      refine s_blk [(.iconst 0, 1, 0, 0)] 32 [some (.ref (79)), some (.int (x1)), some (.int (x2)), none] [.int (0)] u7 [] (by decide +kernel) (by refine qt_iconst qc_0 ?_; exact qt_z rfl rfl rfl rfl rfl) trivial ?_
      exact s_retI .int (by decide +kernel) rfl rfl h
theorem xX12_delay_53 {d : Nat} {x1 : Int32} {x2 : Int32} {x3 : Int32} {w : q_Sm} {Q : s_Po} {X : s_Xo} (h : vX12_delay_53 d x1 x2 x3 w Q X) : s_Ex (d + 1) 0 mX12_delay 53 [some (.ref (79)), some (.int (x1)), some (.int (x2)), some (.int (x3))] [] w Q X := by
  unfold vX12_delay_53 at h
  refine s_blk [(.iload_n 3, 1, 0, 0), (.bipush 60, 2, 0, 0)] 56 [some (.ref (79)), some (.int (x1)), some (.int (x2)), some (.int (x3))] [.int (60), .int (x3)] w [] (by decide +kernel) (by refine qt_iload_n (x := x3) rfl ?_; refine qt_bipush qb_60 ?_; exact qt_z rfl rfl rfl rfl rfl) trivial ?_
  refine s_icmp (cd := .ge) (off := 28) 84 (by decide +kernel) (by decide) (fun hc => ?_) (fun hc => ?_)
  · replace h := h.1 hc
    refine s_blk [(.iload_n 3, 1, 0, 0)] 85 [some (.ref (79)), some (.int (x1)), some (.int (x2)), some (.int (x3))] [.int (x3)] w [] (by decide +kernel) (by refine qt_iload_n (x := x3) rfl ?_; exact qt_z rfl rfl rfl rfl rfl) trivial ?_
    exact s_retI .int (by decide +kernel) rfl rfl h
  · replace h := h.2 hc
    refine s_blk [(.aload_n 0, 1, 0, 0)] 60 [some (.ref (79)), some (.int (x1)), some (.int (x2)), some (.int (x3))] [.ref (79)] w [] (by decide +kernel) (by refine qt_aload_n (r := 79) rfl ?_; exact qt_z rfl rfl rfl rfl rfl) trivial ?_
    refine s_callV (a := 0) (a' := 0) (As := []) (id := 79) (st := []) kX12_passes l_12_397 (by decide +kernel) (q_id_of rfl) rfl (Nat.le_of_ble_eq_true rfl) (s_mono h (s_V_of (fun u12 h => ?_)) (fun _ _ h9 => h9))
    show s_Ex (d + 1) 0 mX12_delay 63 [some (.ref (79)), some (.int (x1)), some (.int (x2)), some (.int (x3))] [] u12 Q X
    obtain ⟨ho13, h⟩ := h
    refine s_blk [(.aload_n 0, 1, 0, 0), (.getfield 92, 3, 12, 51), (.iconst 0, 1, 0, 0), (.iload_n 1, 1, 0, 0), (.iadd, 1, 0, 0), (.iaload, 1, 0, 0), (.iload_n 2, 1, 0, 0)] 72 [some (.ref (79)), some (.int (x1)), some (.int (x2)), some (.int (x3))] [.int (x2), .int (u12.1 105 (Int32.toNatClampNeg (0 + x1)))] u12 [q_id 116 12 79, q_id 116 14 105, vp_in (0 + x1) 63] (by decide +kernel) (by refine qt_aload_n (r := 79) rfl ?_; refine qt_getR (r := 105) rfl rfl rfl ?_; refine qt_iconst qc_0 ?_; refine qt_iload_n (x := x1) rfl ?_; refine qt_iadd ?_; refine qt_iald ?_; refine qt_iload_n (x := x2) rfl ?_; exact qt_z rfl rfl rfl rfl rfl) ⟨(q_id_of rfl), (q_id_of rfl), ho13⟩ ?_
    refine s_icmp (cd := .le) (off := 6) 78 (by decide +kernel) (by decide) (fun hc => ?_) (fun hc => ?_)
    · replace h := h.1 hc
      refine s_blk [(.iinc 3 1, 3, 0, 0), (.goto (-28), 3, 53, 0)] 53 [some (.ref (79)), some (.int (x1)), some (.int (x2)), some (.int (x3 + 1))] [] u12 [] (by decide +kernel) (by refine qt_iinc (x := x3) (L' := [some (.ref (79)), some (.int (x1)), some (.int (x2)), some (.int (x3 + 1))]) rfl qc_1 rfl ?_; refine qt_goto ?_; exact qt_z rfl rfl rfl rfl rfl) trivial ?_
      exact h
    · replace h := h.2 hc
      refine s_blk [(.goto 9, 3, 84, 0), (.iload_n 3, 1, 0, 0)] 85 [some (.ref (79)), some (.int (x1)), some (.int (x2)), some (.int (x3))] [.int (x3)] u12 [] (by decide +kernel) (by refine qt_goto ?_; refine qt_iload_n (x := x3) rfl ?_; exact qt_z rfl rfl rfl rfl rfl) trivial ?_
      exact s_retI .int (by decide +kernel) rfl rfl h
theorem eX12_delay {d : Nat} {x1 : Int32} {x2 : Int32} {w : q_Sm} {Q : s_Po} {X : s_Xo} (h : vX12_delay_0 d x1 x2 w Q X) : s_Ev (d + 1) 0 mX12_delay w [.ref (79), .int (x1), .int (x2)] Q X := s_of (by decide +kernel) rfl (Nat.le_of_ble_eq_true rfl) (xX12_delay_0 h)
def vX12_next_0 (d : Nat)  (w : q_Sm) (Q : s_Po) (X : s_Xo) : Prop := ∀ w_1 : q_Sm, w_1 = q_wI w 79 0 0 → s_Ex (d + 1) 0 mX12_next 9 [some (.ref (79)), some (.int (-1)), some (.int (0))] [] w_1 Q X
def vX12_next_9 (d : Nat) (x1 : Int32) (x2 : Int32) (w : q_Sm) (Q : s_Po) (X : s_Xo) : Prop := (((w.1 79 30) ≤ x2) → Q (some (.int (x1))) w) ∧ (¬ ((w.1 79 30) ≤ x2) → (vp_in (0 + x2) 63) ∧ (((w.1 104 (Int32.toNatClampNeg (0 + x2))) ≤ 0) → s_Ex (d + 1) 0 mX12_next 9 [some (.ref (79)), some (.int (x1)), some (.int (x2 + 1))] [] w Q X) ∧ (¬ ((w.1 104 (Int32.toNatClampNeg (0 + x2))) ≤ 0) → ((x1 = (-1)) → s_Ex (d + 1) 0 mX12_next 9 [some (.ref (79)), some (.int (x2)), some (.int (x2 + 1))] [] w Q X) ∧ (¬ (x1 = (-1)) → s_EvI d 0 mX12_isAhead w [.ref (79), .int (x2), .int (x1)] (fun v2 u3 => ((v2 = 0) → s_Ex (d + 1) 0 mX12_next 9 [some (.ref (79)), some (.int (x1)), some (.int (x2 + 1))] [] u3 Q X) ∧ (¬ (v2 = 0) → s_Ex (d + 1) 0 mX12_next 9 [some (.ref (79)), some (.int (x2)), some (.int (x2 + 1))] [] u3 Q X)) X)))
theorem xX12_next_0 {d : Nat}  {w : q_Sm} {Q : s_Po} {X : s_Xo} (h : vX12_next_0 d  w Q X) : s_Ex (d + 1) 0 mX12_next 0 [some (.ref (79)), none, none] [] w Q X := by
  unfold vX12_next_0 at h
  replace h := h _ rfl
  refine s_blk [(.aload_n 0, 1, 0, 0), (.iconst 0, 1, 0, 0), (.putfield 3, 3, 12, 0), (.iconst (-1), 1, 0, 0), (.istore_n 1, 1, 0, 0), (.iconst 0, 1, 0, 0), (.istore_n 2, 1, 0, 0)] 9 [some (.ref (79)), some (.int (-1)), some (.int (0))] [] (q_wI w 79 0 0) [q_id 116 12 79] (by decide +kernel) (by refine qt_aload_n (r := 79) rfl ?_; refine qt_iconst qc_0 ?_; refine qt_putI rfl ?_; refine qt_iconst qc_m1 ?_; refine qt_istore_n (L' := [some (.ref (79)), some (.int (-1)), none]) rfl ?_; refine qt_iconst qc_0 ?_; refine qt_istore_n (L' := [some (.ref (79)), some (.int (-1)), some (.int (0))]) rfl ?_; exact qt_z rfl rfl rfl rfl rfl) (q_id_of rfl) ?_
  exact h
theorem xX12_next_9 {d : Nat} {x1 : Int32} {x2 : Int32} {w : q_Sm} {Q : s_Po} {X : s_Xo} (h : vX12_next_9 d x1 x2 w Q X) : s_Ex (d + 1) 0 mX12_next 9 [some (.ref (79)), some (.int (x1)), some (.int (x2))] [] w Q X := by
  unfold vX12_next_9 at h
  refine s_blk [(.iload_n 2, 1, 0, 0), (.aload_n 0, 1, 0, 0), (.getfield 196, 3, 12, 30)] 14 [some (.ref (79)), some (.int (x1)), some (.int (x2))] [.int (w.1 79 30), .int (x2)] w [q_id 116 12 79] (by decide +kernel) (by refine qt_iload_n (x := x2) rfl ?_; refine qt_aload_n (r := 79) rfl ?_; refine qt_getI rfl rfl ?_; exact qt_z rfl rfl rfl rfl rfl) (q_id_of rfl) ?_
  refine s_icmp (cd := .ge) (off := 36) 50 (by decide +kernel) (by decide) (fun hc => ?_) (fun hc => ?_)
  · replace h := h.1 hc
    refine s_blk [(.iload_n 1, 1, 0, 0)] 51 [some (.ref (79)), some (.int (x1)), some (.int (x2))] [.int (x1)] w [] (by decide +kernel) (by refine qt_iload_n (x := x1) rfl ?_; exact qt_z rfl rfl rfl rfl rfl) trivial ?_
    exact s_retI .int (by decide +kernel) rfl rfl h
  · replace h := h.2 hc
    obtain ⟨ho4, h⟩ := h
    refine s_blk [(.aload_n 0, 1, 0, 0), (.getfield 89, 3, 12, 50), (.iconst 0, 1, 0, 0), (.iload_n 2, 1, 0, 0), (.iadd, 1, 0, 0), (.iaload, 1, 0, 0)] 25 [some (.ref (79)), some (.int (x1)), some (.int (x2))] [.int (w.1 104 (Int32.toNatClampNeg (0 + x2)))] w [q_id 116 12 79, q_id 116 14 104, vp_in (0 + x2) 63] (by decide +kernel) (by refine qt_aload_n (r := 79) rfl ?_; refine qt_getR (r := 104) rfl rfl rfl ?_; refine qt_iconst qc_0 ?_; refine qt_iload_n (x := x2) rfl ?_; refine qt_iadd ?_; refine qt_iald ?_; exact qt_z rfl rfl rfl rfl rfl) ⟨(q_id_of rfl), (q_id_of rfl), ho4⟩ ?_
    refine s_if (cd := .le) (off := 19) 44 (by decide +kernel) (by decide) (fun hc => ?_) (fun hc => ?_)
    · replace h := h.1 hc
      refine s_blk [(.iinc 2 1, 3, 0, 0), (.goto (-38), 3, 9, 0)] 9 [some (.ref (79)), some (.int (x1)), some (.int (x2 + 1))] [] w [] (by decide +kernel) (by refine qt_iinc (x := x2) (L' := [some (.ref (79)), some (.int (x1)), some (.int (x2 + 1))]) rfl qc_1 rfl ?_; refine qt_goto ?_; exact qt_z rfl rfl rfl rfl rfl) trivial ?_
      exact h
    · replace h := h.2 hc
      refine s_blk [(.iload_n 1, 1, 0, 0), (.iconst (-1), 1, 0, 0)] 30 [some (.ref (79)), some (.int (x1)), some (.int (x2))] [.int (-1), .int (x1)] w [] (by decide +kernel) (by refine qt_iload_n (x := x1) rfl ?_; refine qt_iconst qc_m1 ?_; exact qt_z rfl rfl rfl rfl rfl) trivial ?_
      refine s_icmp (cd := .eq) (off := 12) 42 (by decide +kernel) (by decide) (fun hc => ?_) (fun hc => ?_)
      · replace h := h.1 hc
        refine s_blk [(.iload_n 2, 1, 0, 0), (.istore_n 1, 1, 0, 0), (.iinc 2 1, 3, 0, 0), (.goto (-38), 3, 9, 0)] 9 [some (.ref (79)), some (.int (x2)), some (.int (x2 + 1))] [] w [] (by decide +kernel) (by refine qt_iload_n (x := x2) rfl ?_; refine qt_istore_n (L' := [some (.ref (79)), some (.int (x2)), some (.int (x2))]) rfl ?_; refine qt_iinc (x := x2) (L' := [some (.ref (79)), some (.int (x2)), some (.int (x2 + 1))]) rfl qc_1 rfl ?_; refine qt_goto ?_; exact qt_z rfl rfl rfl rfl rfl) trivial ?_
        exact h
      · replace h := h.2 hc
        refine s_blk [(.aload_n 0, 1, 0, 0), (.iload_n 2, 1, 0, 0), (.iload_n 1, 1, 0, 0)] 36 [some (.ref (79)), some (.int (x1)), some (.int (x2))] [.int (x1), .int (x2), .ref (79)] w [] (by decide +kernel) (by refine qt_aload_n (r := 79) rfl ?_; refine qt_iload_n (x := x2) rfl ?_; refine qt_iload_n (x := x1) rfl ?_; exact qt_z rfl rfl rfl rfl rfl) trivial ?_
        refine s_callV (a := 0) (a' := 0) (As := [.int (x2), .int (x1)]) (id := 79) (st := []) kX12_isAhead l_12_436 (by decide +kernel) (q_id_of rfl) rfl (Nat.le_of_ble_eq_true rfl) (s_mono h (s_I_of (fun v2 u3 h => ?_)) (fun _ _ h9 => h9))
        show s_Ex (d + 1) 0 mX12_next 39 [some (.ref (79)), some (.int (x1)), some (.int (x2))] [.int (v2)] u3 Q X
        refine s_if (cd := .eq) (off := 5) 44 (by decide +kernel) (by decide) (fun hc => ?_) (fun hc => ?_)
        · replace h := h.1 hc
          refine s_blk [(.iinc 2 1, 3, 0, 0), (.goto (-38), 3, 9, 0)] 9 [some (.ref (79)), some (.int (x1)), some (.int (x2 + 1))] [] u3 [] (by decide +kernel) (by refine qt_iinc (x := x2) (L' := [some (.ref (79)), some (.int (x1)), some (.int (x2 + 1))]) rfl qc_1 rfl ?_; refine qt_goto ?_; exact qt_z rfl rfl rfl rfl rfl) trivial ?_
          exact h
        · replace h := h.2 hc
          refine s_blk [(.iload_n 2, 1, 0, 0), (.istore_n 1, 1, 0, 0), (.iinc 2 1, 3, 0, 0), (.goto (-38), 3, 9, 0)] 9 [some (.ref (79)), some (.int (x2)), some (.int (x2 + 1))] [] u3 [] (by decide +kernel) (by refine qt_iload_n (x := x2) rfl ?_; refine qt_istore_n (L' := [some (.ref (79)), some (.int (x2)), some (.int (x2))]) rfl ?_; refine qt_iinc (x := x2) (L' := [some (.ref (79)), some (.int (x2)), some (.int (x2 + 1))]) rfl qc_1 rfl ?_; refine qt_goto ?_; exact qt_z rfl rfl rfl rfl rfl) trivial ?_
          exact h
theorem eX12_next {d : Nat}  {w : q_Sm} {Q : s_Po} {X : s_Xo} (h : vX12_next_0 d  w Q X) : s_Ev (d + 1) 0 mX12_next w [.ref (79)] Q X := s_of (by decide +kernel) rfl (Nat.le_of_ble_eq_true rfl) (xX12_next_0 h)
def vX12_canWed_0 (d : Nat) (x1 : Int32) (x2 : Int32) (w : q_Sm) (Q : s_Po) (X : s_Xo) : Prop := (vp_in ((3 * x1) + 2) 18) ∧ (((w.1 94 (Int32.toNatClampNeg ((3 * x1) + 2))) < x2) → Q (some (.int (0))) w) ∧ (¬ ((w.1 94 (Int32.toNatClampNeg ((3 * x1) + 2))) < x2) → (vp_in (3 * x1) 18) ∧ s_EvI d 0 mX12_lightOf w [.ref (79), .int (x2), .int (w.1 94 (Int32.toNatClampNeg (3 * x1)))] (fun v1 u2 => (vp_in ((3 * x1) + 1) 18) ∧ ((v1 < (u2.1 94 (Int32.toNatClampNeg ((3 * x1) + 1)))) → Q (some (.int (0))) u2) ∧ (¬ (v1 < (u2.1 94 (Int32.toNatClampNeg ((3 * x1) + 1)))) → Q (some (.int (1))) u2)) X)
theorem xX12_canWed_0 {d : Nat} {x1 : Int32} {x2 : Int32} {w : q_Sm} {Q : s_Po} {X : s_Xo} (h : vX12_canWed_0 d x1 x2 w Q X) : s_Ex (d + 1) 0 mX12_canWed 0 [some (.ref (79)), some (.int (x1)), some (.int (x2))] [] w Q X := by
  unfold vX12_canWed_0 at h
  obtain ⟨ho5, h⟩ := h
  refine s_blk [(.iload_n 2, 1, 0, 0), (.aload_n 0, 1, 0, 0), (.getfield 59, 3, 12, 22), (.iconst 3, 1, 0, 0), (.iload_n 1, 1, 0, 0), (.imul, 1, 0, 0), (.iconst 2, 1, 0, 0), (.iadd, 1, 0, 0), (.iaload, 1, 0, 0)] 11 [some (.ref (79)), some (.int (x1)), some (.int (x2))] [.int (w.1 94 (Int32.toNatClampNeg ((3 * x1) + 2))), .int (x2)] w [q_id 116 12 79, q_id 116 14 94, vp_in ((3 * x1) + 2) 18] (by decide +kernel) (by refine qt_iload_n (x := x2) rfl ?_; refine qt_aload_n (r := 79) rfl ?_; refine qt_getR (r := 94) rfl rfl rfl ?_; refine qt_iconst qc_3 ?_; refine qt_iload_n (x := x1) rfl ?_; refine qt_imul ?_; refine qt_iconst qc_2 ?_; refine qt_iadd ?_; refine qt_iald ?_; exact qt_z rfl rfl rfl rfl rfl) ⟨(q_id_of rfl), (q_id_of rfl), ho5⟩ ?_
  refine s_icmp (cd := .gt) (off := 33) 44 (by decide +kernel) (by decide) (fun hc => ?_) (fun hc => ?_)
  · replace h := h.1 hc
    refine s_blk [(.iconst 0, 1, 0, 0)] 45 [some (.ref (79)), some (.int (x1)), some (.int (x2))] [.int (0)] w [] (by decide +kernel) (by refine qt_iconst qc_0 ?_; exact qt_z rfl rfl rfl rfl rfl) trivial ?_
    exact s_retI .boolean (by decide +kernel) rfl rfl h
  · replace h := h.2 hc
    obtain ⟨ho4, h⟩ := h
    refine s_blk [(.aload_n 0, 1, 0, 0), (.iload_n 2, 1, 0, 0), (.aload_n 0, 1, 0, 0), (.getfield 59, 3, 12, 22), (.iconst 3, 1, 0, 0), (.iload_n 1, 1, 0, 0), (.imul, 1, 0, 0), (.iaload, 1, 0, 0)] 24 [some (.ref (79)), some (.int (x1)), some (.int (x2))] [.int (w.1 94 (Int32.toNatClampNeg (3 * x1))), .int (x2), .ref (79)] w [q_id 116 12 79, q_id 116 14 94, vp_in (3 * x1) 18] (by decide +kernel) (by refine qt_aload_n (r := 79) rfl ?_; refine qt_iload_n (x := x2) rfl ?_; refine qt_aload_n (r := 79) rfl ?_; refine qt_getR (r := 94) rfl rfl rfl ?_; refine qt_iconst qc_3 ?_; refine qt_iload_n (x := x1) rfl ?_; refine qt_imul ?_; refine qt_iald ?_; exact qt_z rfl rfl rfl rfl rfl) ⟨(q_id_of rfl), (q_id_of rfl), ho4⟩ ?_
    refine s_callV (a := 0) (a' := 0) (As := [.int (x2), .int (w.1 94 (Int32.toNatClampNeg (3 * x1)))]) (id := 79) (st := []) kX12_lightOf l_12_227 (by decide +kernel) (q_id_of rfl) rfl (Nat.le_of_ble_eq_true rfl) (s_mono h (s_I_of (fun v1 u2 h => ?_)) (fun _ _ h9 => h9))
    show s_Ex (d + 1) 0 mX12_canWed 27 [some (.ref (79)), some (.int (x1)), some (.int (x2))] [.int (v1)] u2 Q X
    obtain ⟨ho3, h⟩ := h
    refine s_blk [(.aload_n 0, 1, 0, 0), (.getfield 59, 3, 12, 22), (.iconst 3, 1, 0, 0), (.iload_n 1, 1, 0, 0), (.imul, 1, 0, 0), (.iconst 1, 1, 0, 0), (.iadd, 1, 0, 0), (.iaload, 1, 0, 0)] 37 [some (.ref (79)), some (.int (x1)), some (.int (x2))] [.int (u2.1 94 (Int32.toNatClampNeg ((3 * x1) + 1))), .int (v1)] u2 [q_id 116 12 79, q_id 116 14 94, vp_in ((3 * x1) + 1) 18] (by decide +kernel) (by refine qt_aload_n (r := 79) rfl ?_; refine qt_getR (r := 94) rfl rfl rfl ?_; refine qt_iconst qc_3 ?_; refine qt_iload_n (x := x1) rfl ?_; refine qt_imul ?_; refine qt_iconst qc_1 ?_; refine qt_iadd ?_; refine qt_iald ?_; exact qt_z rfl rfl rfl rfl rfl) ⟨(q_id_of rfl), (q_id_of rfl), ho3⟩ ?_
    refine s_icmp (cd := .lt) (off := 7) 44 (by decide +kernel) (by decide) (fun hc => ?_) (fun hc => ?_)
    · replace h := h.1 hc
      refine s_blk [(.iconst 0, 1, 0, 0)] 45 [some (.ref (79)), some (.int (x1)), some (.int (x2))] [.int (0)] u2 [] (by decide +kernel) (by refine qt_iconst qc_0 ?_; exact qt_z rfl rfl rfl rfl rfl) trivial ?_
      exact s_retI .boolean (by decide +kernel) rfl rfl h
    · replace h := h.2 hc
      refine s_blk [(.iconst 1, 1, 0, 0), (.goto 4, 3, 45, 0)] 45 [some (.ref (79)), some (.int (x1)), some (.int (x2))] [.int (1)] u2 [] (by decide +kernel) (by refine qt_iconst qc_1 ?_; refine qt_goto ?_; exact qt_z rfl rfl rfl rfl rfl) trivial ?_
      exact s_retI .boolean (by decide +kernel) rfl rfl h
theorem eX12_canWed {d : Nat} {x1 : Int32} {x2 : Int32} {w : q_Sm} {Q : s_Po} {X : s_Xo} (h : vX12_canWed_0 d x1 x2 w Q X) : s_Ev (d + 1) 0 mX12_canWed w [.ref (79), .int (x1), .int (x2)] Q X := s_of (by decide +kernel) rfl (Nat.le_of_ble_eq_true rfl) (xX12_canWed_0 h)
def vX12_finds_0 (d : Nat) (x1 : Int32) (x2 : Int32) (w : q_Sm) (Q : s_Po) (X : s_Xo) : Prop := s_Ex (d + 1) 0 mX12_finds 2 [some (.ref (79)), some (.int (x1)), some (.int (x2)), some (.int (0))] [] w Q X
def vX12_finds_2 (d : Nat) (x1 : Int32) (x2 : Int32) (x3 : Int32) (w : q_Sm) (Q : s_Po) (X : s_Xo) : Prop := ((60 < x3) → Q (some (.int (0))) w) ∧ (¬ (60 < x3) → (vp_in x3 61) ∧ ((¬ (w.1 113 (Int32.toNatClampNeg x3)) = 0) → s_Ex (d + 1) 0 mX12_finds 2 [some (.ref (79)), some (.int (x1)), some (.int (x2)), some (.int (x3 + 1))] [] w Q X) ∧ (¬ (¬ (w.1 113 (Int32.toNatClampNeg x3)) = 0) → s_EvI d 0 mX12_canWed w [.ref (79), .int (x1), .int (x3)] (fun v1 u2 => ((¬ v1 = 0) → (vp_in x3 61) ∧ ∀ w_3 : q_Sm, w_3 = q_wI u2 113 (Int32.toNatClampNeg x3) (vp_nar (if 16 = 13 then .byte else .boolean) 1) → (vp_in x3 61) ∧ (((w_3.1 112 (Int32.toNatClampNeg x3)) = (-1)) → (vp_in x3 61) ∧ ∀ w_4 : q_Sm, w_4 = q_wI w_3 112 (Int32.toNatClampNeg x3) x1 → Q (some (.int (1))) w_4) ∧ (¬ ((w_3.1 112 (Int32.toNatClampNeg x3)) = (-1)) → (vp_in x3 61) ∧ (((w_3.1 112 (Int32.toNatClampNeg x3)) < x2) → s_Ex (d + 1) 0 mX12_finds 2 [some (.ref (79)), some (.int (x1)), some (.int (x2)), some (.int (x3 + 1))] [] w_3 Q X) ∧ (¬ ((w_3.1 112 (Int32.toNatClampNeg x3)) < x2) → (vp_in x3 61) ∧ s_EvI d 0 mX12_finds w_3 [.ref (79), .int (w_3.1 112 (Int32.toNatClampNeg x3)), .int (x2)] (fun v6 u7 => ((¬ v6 = 0) → (vp_in x3 61) ∧ ∀ w_8 : q_Sm, w_8 = q_wI u7 112 (Int32.toNatClampNeg x3) x1 → Q (some (.int (1))) w_8) ∧ (¬ (¬ v6 = 0) → s_Ex (d + 1) 0 mX12_finds 2 [some (.ref (79)), some (.int (x1)), some (.int (x2)), some (.int (x3 + 1))] [] u7 Q X)) X))) ∧ (¬ (¬ v1 = 0) → s_Ex (d + 1) 0 mX12_finds 2 [some (.ref (79)), some (.int (x1)), some (.int (x2)), some (.int (x3 + 1))] [] u2 Q X)) X))
theorem xX12_finds_0 {d : Nat} {x1 : Int32} {x2 : Int32} {w : q_Sm} {Q : s_Po} {X : s_Xo} (h : vX12_finds_0 d x1 x2 w Q X) : s_Ex (d + 1) 0 mX12_finds 0 [some (.ref (79)), some (.int (x1)), some (.int (x2)), none] [] w Q X := by
  unfold vX12_finds_0 at h
  refine s_blk [(.iconst 0, 1, 0, 0), (.istore_n 3, 1, 0, 0)] 2 [some (.ref (79)), some (.int (x1)), some (.int (x2)), some (.int (0))] [] w [] (by decide +kernel) (by refine qt_iconst qc_0 ?_; refine qt_istore_n (L' := [some (.ref (79)), some (.int (x1)), some (.int (x2)), some (.int (0))]) rfl ?_; exact qt_z rfl rfl rfl rfl rfl) trivial ?_
  exact h
theorem xX12_finds_2 {d : Nat} {x1 : Int32} {x2 : Int32} {x3 : Int32} {w : q_Sm} {Q : s_Po} {X : s_Xo} (h : vX12_finds_2 d x1 x2 x3 w Q X) : s_Ex (d + 1) 0 mX12_finds 2 [some (.ref (79)), some (.int (x1)), some (.int (x2)), some (.int (x3))] [] w Q X := by
  unfold vX12_finds_2 at h
  refine s_blk [(.iload_n 3, 1, 0, 0), (.bipush 60, 2, 0, 0)] 5 [some (.ref (79)), some (.int (x1)), some (.int (x2)), some (.int (x3))] [.int (60), .int (x3)] w [] (by decide +kernel) (by refine qt_iload_n (x := x3) rfl ?_; refine qt_bipush qb_60 ?_; exact qt_z rfl rfl rfl rfl rfl) trivial ?_
  refine s_icmp (cd := .gt) (off := 83) 88 (by decide +kernel) (by decide) (fun hc => ?_) (fun hc => ?_)
  · replace h := h.1 hc
    refine s_blk [(.iconst 0, 1, 0, 0)] 89 [some (.ref (79)), some (.int (x1)), some (.int (x2)), some (.int (x3))] [.int (0)] w [] (by decide +kernel) (by refine qt_iconst qc_0 ?_; exact qt_z rfl rfl rfl rfl rfl) trivial ?_
    exact s_retI .boolean (by decide +kernel) rfl rfl h
  · replace h := h.2 hc
    obtain ⟨ho14, h⟩ := h
    refine s_blk [(.aload_n 0, 1, 0, 0), (.getfield 116, 3, 12, 60), (.iload_n 3, 1, 0, 0), (.baload, 1, 16, 0)] 14 [some (.ref (79)), some (.int (x1)), some (.int (x2)), some (.int (x3))] [.int (w.1 113 (Int32.toNatClampNeg x3))] w [q_id 116 12 79, q_id 116 16 113, vp_in x3 61] (by decide +kernel) (by refine qt_aload_n (r := 79) rfl ?_; refine qt_getR (r := 113) rfl rfl rfl ?_; refine qt_iload_n (x := x3) rfl ?_; refine qt_bald ?_; exact qt_z rfl rfl rfl rfl rfl) ⟨(q_id_of rfl), (q_id_of rfl), ho14⟩ ?_
    refine s_if (cd := .ne) (off := 68) 82 (by decide +kernel) (by decide) (fun hc => ?_) (fun hc => ?_)
    · replace h := h.1 hc
      refine s_blk [(.iinc 3 1, 3, 0, 0), (.goto (-83), 3, 2, 0)] 2 [some (.ref (79)), some (.int (x1)), some (.int (x2)), some (.int (x3 + 1))] [] w [] (by decide +kernel) (by refine qt_iinc (x := x3) (L' := [some (.ref (79)), some (.int (x1)), some (.int (x2)), some (.int (x3 + 1))]) rfl qc_1 rfl ?_; refine qt_goto ?_; exact qt_z rfl rfl rfl rfl rfl) trivial ?_
      exact h
    · replace h := h.2 hc
      refine s_blk [(.aload_n 0, 1, 0, 0), (.iload_n 1, 1, 0, 0), (.iload_n 3, 1, 0, 0)] 20 [some (.ref (79)), some (.int (x1)), some (.int (x2)), some (.int (x3))] [.int (x3), .int (x1), .ref (79)] w [] (by decide +kernel) (by refine qt_aload_n (r := 79) rfl ?_; refine qt_iload_n (x := x1) rfl ?_; refine qt_iload_n (x := x3) rfl ?_; exact qt_z rfl rfl rfl rfl rfl) trivial ?_
      refine s_callV (a := 0) (a' := 0) (As := [.int (x1), .int (x3)]) (id := 79) (st := []) kX12_canWed l_12_442 (by decide +kernel) (q_id_of rfl) rfl (Nat.le_of_ble_eq_true rfl) (s_mono h (s_I_of (fun v1 u2 h => ?_)) (fun _ _ h9 => h9))
      show s_Ex (d + 1) 0 mX12_finds 23 [some (.ref (79)), some (.int (x1)), some (.int (x2)), some (.int (x3))] [.int (v1)] u2 Q X
      refine s_if (cd := .ne) (off := 6) 29 (by decide +kernel) (by decide) (fun hc => ?_) (fun hc => ?_)
      · replace h := h.1 hc
        obtain ⟨ho12, h⟩ := h
        replace h := h _ rfl
        obtain ⟨ho13, h⟩ := h
        refine s_blk [(.aload_n 0, 1, 0, 0), (.getfield 116, 3, 12, 60), (.iload_n 3, 1, 0, 0), (.iconst 1, 1, 0, 0), (.bastore, 1, 16, 0), (.aload_n 0, 1, 0, 0), (.getfield 113, 3, 12, 59), (.iload_n 3, 1, 0, 0), (.iaload, 1, 0, 0), (.iconst (-1), 1, 0, 0)] 43 [some (.ref (79)), some (.int (x1)), some (.int (x2)), some (.int (x3))] [.int (-1), .int ((q_wI u2 113 (Int32.toNatClampNeg x3) (vp_nar (if 16 = 13 then .byte else .boolean) 1)).1 112 (Int32.toNatClampNeg x3))] (q_wI u2 113 (Int32.toNatClampNeg x3) (vp_nar (if 16 = 13 then .byte else .boolean) 1)) [q_id 116 12 79, q_id 116 16 113, vp_in x3 61, q_id 116 12 79, q_id 116 14 112, vp_in x3 61] (by decide +kernel) (by refine qt_aload_n (r := 79) rfl ?_; refine qt_getR (r := 113) rfl rfl rfl ?_; refine qt_iload_n (x := x3) rfl ?_; refine qt_iconst qc_1 ?_; refine qt_bast ?_; refine qt_aload_n (r := 79) rfl ?_; refine qt_getR (r := 112) rfl rfl rfl ?_; refine qt_iload_n (x := x3) rfl ?_; refine qt_iald ?_; refine qt_iconst qc_m1 ?_; exact qt_z rfl rfl rfl rfl rfl) ⟨(q_id_of rfl), (q_id_of rfl), ho12, (q_id_of rfl), (q_id_of rfl), ho13⟩ ?_
        refine s_icmp (cd := .eq) (off := 30) 73 (by decide +kernel) (by decide) (fun hc => ?_) (fun hc => ?_)
        · replace h := h.1 hc
          obtain ⟨ho5, h⟩ := h
          replace h := h _ rfl
          refine s_blk [(.aload_n 0, 1, 0, 0), (.getfield 113, 3, 12, 59), (.iload_n 3, 1, 0, 0), (.iload_n 1, 1, 0, 0), (.iastore, 1, 0, 0), (.iconst 1, 1, 0, 0)] 81 [some (.ref (79)), some (.int (x1)), some (.int (x2)), some (.int (x3))] [.int (1)] (q_wI (q_wI u2 113 (Int32.toNatClampNeg x3) (vp_nar (if 16 = 13 then .byte else .boolean) 1)) 112 (Int32.toNatClampNeg x3) x1) [q_id 116 12 79, q_id 116 14 112, vp_in x3 61] (by decide +kernel) (by refine qt_aload_n (r := 79) rfl ?_; refine qt_getR (r := 112) rfl rfl rfl ?_; refine qt_iload_n (x := x3) rfl ?_; refine qt_iload_n (x := x1) rfl ?_; refine qt_iast ?_; refine qt_iconst qc_1 ?_; exact qt_z rfl rfl rfl rfl rfl) ⟨(q_id_of rfl), (q_id_of rfl), ho5⟩ ?_
          exact s_retI .boolean (by decide +kernel) rfl rfl h
        · replace h := h.2 hc
          obtain ⟨ho11, h⟩ := h
          refine s_blk [(.aload_n 0, 1, 0, 0), (.getfield 113, 3, 12, 59), (.iload_n 3, 1, 0, 0), (.iaload, 1, 0, 0), (.iload_n 2, 1, 0, 0)] 53 [some (.ref (79)), some (.int (x1)), some (.int (x2)), some (.int (x3))] [.int (x2), .int ((q_wI u2 113 (Int32.toNatClampNeg x3) (vp_nar (if 16 = 13 then .byte else .boolean) 1)).1 112 (Int32.toNatClampNeg x3))] (q_wI u2 113 (Int32.toNatClampNeg x3) (vp_nar (if 16 = 13 then .byte else .boolean) 1)) [q_id 116 12 79, q_id 116 14 112, vp_in x3 61] (by decide +kernel) (by refine qt_aload_n (r := 79) rfl ?_; refine qt_getR (r := 112) rfl rfl rfl ?_; refine qt_iload_n (x := x3) rfl ?_; refine qt_iald ?_; refine qt_iload_n (x := x2) rfl ?_; exact qt_z rfl rfl rfl rfl rfl) ⟨(q_id_of rfl), (q_id_of rfl), ho11⟩ ?_
          refine s_icmp (cd := .lt) (off := 29) 82 (by decide +kernel) (by decide) (fun hc => ?_) (fun hc => ?_)
          · replace h := h.1 hc
            refine s_blk [(.iinc 3 1, 3, 0, 0), (.goto (-83), 3, 2, 0)] 2 [some (.ref (79)), some (.int (x1)), some (.int (x2)), some (.int (x3 + 1))] [] (q_wI u2 113 (Int32.toNatClampNeg x3) (vp_nar (if 16 = 13 then .byte else .boolean) 1)) [] (by decide +kernel) (by refine qt_iinc (x := x3) (L' := [some (.ref (79)), some (.int (x1)), some (.int (x2)), some (.int (x3 + 1))]) rfl qc_1 rfl ?_; refine qt_goto ?_; exact qt_z rfl rfl rfl rfl rfl) trivial ?_
            exact h
          · replace h := h.2 hc
            obtain ⟨ho10, h⟩ := h
            refine s_blk [(.aload_n 0, 1, 0, 0), (.aload_n 0, 1, 0, 0), (.getfield 113, 3, 12, 59), (.iload_n 3, 1, 0, 0), (.iaload, 1, 0, 0), (.iload_n 2, 1, 0, 0)] 64 [some (.ref (79)), some (.int (x1)), some (.int (x2)), some (.int (x3))] [.int (x2), .int ((q_wI u2 113 (Int32.toNatClampNeg x3) (vp_nar (if 16 = 13 then .byte else .boolean) 1)).1 112 (Int32.toNatClampNeg x3)), .ref (79)] (q_wI u2 113 (Int32.toNatClampNeg x3) (vp_nar (if 16 = 13 then .byte else .boolean) 1)) [q_id 116 12 79, q_id 116 14 112, vp_in x3 61] (by decide +kernel) (by refine qt_aload_n (r := 79) rfl ?_; refine qt_aload_n (r := 79) rfl ?_; refine qt_getR (r := 112) rfl rfl rfl ?_; refine qt_iload_n (x := x3) rfl ?_; refine qt_iald ?_; refine qt_iload_n (x := x2) rfl ?_; exact qt_z rfl rfl rfl rfl rfl) ⟨(q_id_of rfl), (q_id_of rfl), ho10⟩ ?_
            refine s_callV (a := 0) (a' := 0) (As := [.int ((q_wI u2 113 (Int32.toNatClampNeg x3) (vp_nar (if 16 = 13 then .byte else .boolean) 1)).1 112 (Int32.toNatClampNeg x3)), .int (x2)]) (id := 79) (st := []) kX12_finds l_12_445 (by decide +kernel) (q_id_of rfl) rfl (Nat.le_of_ble_eq_true rfl) (s_mono h (s_I_of (fun v6 u7 h => ?_)) (fun _ _ h9 => h9))
            show s_Ex (d + 1) 0 mX12_finds 67 [some (.ref (79)), some (.int (x1)), some (.int (x2)), some (.int (x3))] [.int (v6)] u7 Q X
            refine s_if (cd := .ne) (off := 6) 73 (by decide +kernel) (by decide) (fun hc => ?_) (fun hc => ?_)
            · replace h := h.1 hc
              obtain ⟨ho9, h⟩ := h
              replace h := h _ rfl
              refine s_blk [(.aload_n 0, 1, 0, 0), (.getfield 113, 3, 12, 59), (.iload_n 3, 1, 0, 0), (.iload_n 1, 1, 0, 0), (.iastore, 1, 0, 0), (.iconst 1, 1, 0, 0)] 81 [some (.ref (79)), some (.int (x1)), some (.int (x2)), some (.int (x3))] [.int (1)] (q_wI u7 112 (Int32.toNatClampNeg x3) x1) [q_id 116 12 79, q_id 116 14 112, vp_in x3 61] (by decide +kernel) (by refine qt_aload_n (r := 79) rfl ?_; refine qt_getR (r := 112) rfl rfl rfl ?_; refine qt_iload_n (x := x3) rfl ?_; refine qt_iload_n (x := x1) rfl ?_; refine qt_iast ?_; refine qt_iconst qc_1 ?_; exact qt_z rfl rfl rfl rfl rfl) ⟨(q_id_of rfl), (q_id_of rfl), ho9⟩ ?_
              exact s_retI .boolean (by decide +kernel) rfl rfl h
            · replace h := h.2 hc
              refine s_blk [(.goto 12, 3, 82, 0), (.iinc 3 1, 3, 0, 0), (.goto (-83), 3, 2, 0)] 2 [some (.ref (79)), some (.int (x1)), some (.int (x2)), some (.int (x3 + 1))] [] u7 [] (by decide +kernel) (by refine qt_goto ?_; refine qt_iinc (x := x3) (L' := [some (.ref (79)), some (.int (x1)), some (.int (x2)), some (.int (x3 + 1))]) rfl qc_1 rfl ?_; refine qt_goto ?_; exact qt_z rfl rfl rfl rfl rfl) trivial ?_
              exact h
      · replace h := h.2 hc
        refine s_blk [(.goto 56, 3, 82, 0), (.iinc 3 1, 3, 0, 0), (.goto (-83), 3, 2, 0)] 2 [some (.ref (79)), some (.int (x1)), some (.int (x2)), some (.int (x3 + 1))] [] u2 [] (by decide +kernel) (by refine qt_goto ?_; refine qt_iinc (x := x3) (L' := [some (.ref (79)), some (.int (x1)), some (.int (x2)), some (.int (x3 + 1))]) rfl qc_1 rfl ?_; refine qt_goto ?_; exact qt_z rfl rfl rfl rfl rfl) trivial ?_
        exact h
theorem eX12_finds {d : Nat} {x1 : Int32} {x2 : Int32} {w : q_Sm} {Q : s_Po} {X : s_Xo} (h : vX12_finds_0 d x1 x2 w Q X) : s_Ev (d + 1) 0 mX12_finds w [.ref (79), .int (x1), .int (x2)] Q X := s_of (by decide +kernel) rfl (Nat.le_of_ble_eq_true rfl) (xX12_finds_0 h)
def vX12_mostWith_0 (d : Nat) (x1 : Int32) (w : q_Sm) (Q : s_Po) (X : s_Xo) : Prop := s_Ex (d + 1) 0 mX12_mostWith 2 [some (.ref (79)), some (.int (x1)), some (.int (0)), none, none] [] w Q X
def vX12_mostWith_2 (d : Nat) (x1 : Int32) (x2 : Int32) (w : q_Sm) (Q : s_Po) (X : s_Xo) : Prop := ((60 < x2) → s_Ex (d + 1) 0 mX12_mostWith 25 [some (.ref (79)), some (.int (x1)), some (.int (0)), some (.int (0)), none] [] w Q X) ∧ (¬ (60 < x2) → (vp_in x2 61) ∧ ∀ w_1 : q_Sm, w_1 = q_wI w 112 (Int32.toNatClampNeg x2) (-1) → s_Ex (d + 1) 0 mX12_mostWith 2 [some (.ref (79)), some (.int (x1)), some (.int (x2 + 1)), none, none] [] w_1 Q X)
def vX12_mostWith_25 (d : Nat) (x1 : Int32) (x2 : Int32) (x3 : Int32) (w : q_Sm) (Q : s_Po) (X : s_Xo) : Prop := ((x1 ≤ x3) → s_Ex (d + 1) 0 mX12_mostWith 66 [some (.ref (79)), some (.int (x1)), some (.int (x2)), some (.int (x1)), none] [] w Q X) ∧ (¬ (x1 ≤ x3) → (vp_in x3 6) ∧ ((¬ (w.1 110 (Int32.toNatClampNeg x3)) = (-1)) → (vp_in x3 6) ∧ (vp_in (w.1 110 (Int32.toNatClampNeg x3)) 61) ∧ ∀ w_3 : q_Sm, w_3 = q_wI w 112 (Int32.toNatClampNeg (w.1 110 (Int32.toNatClampNeg x3))) x3 → s_Ex (d + 1) 0 mX12_mostWith 25 [some (.ref (79)), some (.int (x1)), some (.int (x2 + 1)), some (.int (x3 + 1)), none] [] w_3 Q X) ∧ (¬ (¬ (w.1 110 (Int32.toNatClampNeg x3)) = (-1)) → s_Ex (d + 1) 0 mX12_mostWith 25 [some (.ref (79)), some (.int (x1)), some (.int (x2)), some (.int (x3 + 1)), none] [] w Q X))
def vX12_mostWith_66 (d : Nat) (x1 : Int32) (x2 : Int32) (x3 : Int32) (w : q_Sm) (Q : s_Po) (X : s_Xo) : Prop := (((w.1 79 32) ≤ x3) → Q (some (.int (x2))) w) ∧ (¬ ((w.1 79 32) ≤ x3) → s_Ex (d + 1) 0 mX12_mostWith 77 [some (.ref (79)), some (.int (x1)), some (.int (x2)), some (.int (x3)), some (.int (0))] [] w Q X)
def vX12_mostWith_77 (d : Nat) (x1 : Int32) (x2 : Int32) (x3 : Int32) (x4 : Int32) (w : q_Sm) (Q : s_Po) (X : s_Xo) : Prop := ((60 < x4) → s_EvI d 0 mX12_finds w [.ref (79), .int (x3), .int (x1)] (fun v7 u8 => ((v7 = 0) → s_Ex (d + 1) 0 mX12_mostWith 66 [some (.ref (79)), some (.int (x1)), some (.int (x2 + 0)), some (.int (x3 + 1)), none] [] u8 Q X) ∧ (¬ (v7 = 0) → s_Ex (d + 1) 0 mX12_mostWith 66 [some (.ref (79)), some (.int (x1)), some (.int (x2 + 1)), some (.int (x3 + 1)), none] [] u8 Q X)) X) ∧ (¬ (60 < x4) → (vp_in x4 61) ∧ ∀ w_9 : q_Sm, w_9 = q_wI w 113 (Int32.toNatClampNeg x4) (vp_nar (if 16 = 13 then .byte else .boolean) 0) → s_Ex (d + 1) 0 mX12_mostWith 77 [some (.ref (79)), some (.int (x1)), some (.int (x2)), some (.int (x3)), some (.int (x4 + 1))] [] w_9 Q X)
theorem xX12_mostWith_0 {d : Nat} {x1 : Int32} {w : q_Sm} {Q : s_Po} {X : s_Xo} (h : vX12_mostWith_0 d x1 w Q X) : s_Ex (d + 1) 0 mX12_mostWith 0 [some (.ref (79)), some (.int (x1)), none, none, none] [] w Q X := by
  unfold vX12_mostWith_0 at h
  refine s_blk [(.iconst 0, 1, 0, 0), (.istore_n 2, 1, 0, 0)] 2 [some (.ref (79)), some (.int (x1)), some (.int (0)), none, none] [] w [] (by decide +kernel) (by refine qt_iconst qc_0 ?_; refine qt_istore_n (L' := [some (.ref (79)), some (.int (x1)), some (.int (0)), none, none]) rfl ?_; exact qt_z rfl rfl rfl rfl rfl) trivial ?_
  exact h
theorem xX12_mostWith_2 {d : Nat} {x1 : Int32} {x2 : Int32} {w : q_Sm} {Q : s_Po} {X : s_Xo} (h : vX12_mostWith_2 d x1 x2 w Q X) : s_Ex (d + 1) 0 mX12_mostWith 2 [some (.ref (79)), some (.int (x1)), some (.int (x2)), none, none] [] w Q X := by
  unfold vX12_mostWith_2 at h
  refine s_blk [(.iload_n 2, 1, 0, 0), (.bipush 60, 2, 0, 0)] 5 [some (.ref (79)), some (.int (x1)), some (.int (x2)), none, none] [.int (60), .int (x2)] w [] (by decide +kernel) (by refine qt_iload_n (x := x2) rfl ?_; refine qt_bipush qb_60 ?_; exact qt_z rfl rfl rfl rfl rfl) trivial ?_
  refine s_icmp (cd := .gt) (off := 16) 21 (by decide +kernel) (by decide) (fun hc => ?_) (fun hc => ?_)
  · replace h := h.1 hc
    refine s_blk [(.iconst 0, 1, 0, 0), (.istore_n 2, 1, 0, 0), (.iconst 0, 1, 0, 0), (.istore_n 3, 1, 0, 0)] 25 [some (.ref (79)), some (.int (x1)), some (.int (0)), some (.int (0)), none] [] w [] (by decide +kernel) (by refine qt_iconst qc_0 ?_; refine qt_istore_n (L' := [some (.ref (79)), some (.int (x1)), some (.int (0)), none, none]) rfl ?_; refine qt_iconst qc_0 ?_; refine qt_istore_n (L' := [some (.ref (79)), some (.int (x1)), some (.int (0)), some (.int (0)), none]) rfl ?_; exact qt_z rfl rfl rfl rfl rfl) trivial ?_
    exact h
  · replace h := h.2 hc
    obtain ⟨ho2, h⟩ := h
    replace h := h _ rfl
    refine s_blk [(.aload_n 0, 1, 0, 0), (.getfield 113, 3, 12, 59), (.iload_n 2, 1, 0, 0), (.iconst (-1), 1, 0, 0), (.iastore, 1, 0, 0), (.iinc 2 1, 3, 0, 0), (.goto (-16), 3, 2, 0)] 2 [some (.ref (79)), some (.int (x1)), some (.int (x2 + 1)), none, none] [] (q_wI w 112 (Int32.toNatClampNeg x2) (-1)) [q_id 116 12 79, q_id 116 14 112, vp_in x2 61] (by decide +kernel) (by refine qt_aload_n (r := 79) rfl ?_; refine qt_getR (r := 112) rfl rfl rfl ?_; refine qt_iload_n (x := x2) rfl ?_; refine qt_iconst qc_m1 ?_; refine qt_iast ?_; refine qt_iinc (x := x2) (L' := [some (.ref (79)), some (.int (x1)), some (.int (x2 + 1)), none, none]) rfl qc_1 rfl ?_; refine qt_goto ?_; exact qt_z rfl rfl rfl rfl rfl) ⟨(q_id_of rfl), (q_id_of rfl), ho2⟩ ?_
    exact h
theorem xX12_mostWith_25 {d : Nat} {x1 : Int32} {x2 : Int32} {x3 : Int32} {w : q_Sm} {Q : s_Po} {X : s_Xo} (h : vX12_mostWith_25 d x1 x2 x3 w Q X) : s_Ex (d + 1) 0 mX12_mostWith 25 [some (.ref (79)), some (.int (x1)), some (.int (x2)), some (.int (x3)), none] [] w Q X := by
  unfold vX12_mostWith_25 at h
  refine s_blk [(.iload_n 3, 1, 0, 0), (.iload_n 1, 1, 0, 0)] 27 [some (.ref (79)), some (.int (x1)), some (.int (x2)), some (.int (x3)), none] [.int (x1), .int (x3)] w [] (by decide +kernel) (by refine qt_iload_n (x := x3) rfl ?_; refine qt_iload_n (x := x1) rfl ?_; exact qt_z rfl rfl rfl rfl rfl) trivial ?_
  refine s_icmp (cd := .ge) (off := 37) 64 (by decide +kernel) (by decide) (fun hc => ?_) (fun hc => ?_)
  · replace h := h.1 hc
    refine s_blk [(.iload_n 1, 1, 0, 0), (.istore_n 3, 1, 0, 0)] 66 [some (.ref (79)), some (.int (x1)), some (.int (x2)), some (.int (x1)), none] [] w [] (by decide +kernel) (by refine qt_iload_n (x := x1) rfl ?_; refine qt_istore_n (L' := [some (.ref (79)), some (.int (x1)), some (.int (x2)), some (.int (x1)), none]) rfl ?_; exact qt_z rfl rfl rfl rfl rfl) trivial ?_
    exact h
  · replace h := h.2 hc
    obtain ⟨ho6, h⟩ := h
    refine s_blk [(.aload_n 0, 1, 0, 0), (.getfield 107, 3, 12, 57), (.iload_n 3, 1, 0, 0), (.iaload, 1, 0, 0), (.iconst (-1), 1, 0, 0)] 37 [some (.ref (79)), some (.int (x1)), some (.int (x2)), some (.int (x3)), none] [.int (-1), .int (w.1 110 (Int32.toNatClampNeg x3))] w [q_id 116 12 79, q_id 116 14 110, vp_in x3 6] (by decide +kernel) (by refine qt_aload_n (r := 79) rfl ?_; refine qt_getR (r := 110) rfl rfl rfl ?_; refine qt_iload_n (x := x3) rfl ?_; refine qt_iald ?_; refine qt_iconst qc_m1 ?_; exact qt_z rfl rfl rfl rfl rfl) ⟨(q_id_of rfl), (q_id_of rfl), ho6⟩ ?_
    refine s_icmp (cd := .ne) (off := 6) 43 (by decide +kernel) (by decide) (fun hc => ?_) (fun hc => ?_)
    · replace h := h.1 hc
      obtain ⟨ho4, h⟩ := h
      obtain ⟨ho5, h⟩ := h
      replace h := h _ rfl
      refine s_blk [(.aload_n 0, 1, 0, 0), (.getfield 113, 3, 12, 59), (.aload_n 0, 1, 0, 0), (.getfield 107, 3, 12, 57), (.iload_n 3, 1, 0, 0), (.iaload, 1, 0, 0), (.iload_n 3, 1, 0, 0), (.iastore, 1, 0, 0), (.iinc 2 1, 3, 0, 0), (.iinc 3 1, 3, 0, 0), (.goto (-36), 3, 25, 0)] 25 [some (.ref (79)), some (.int (x1)), some (.int (x2 + 1)), some (.int (x3 + 1)), none] [] (q_wI w 112 (Int32.toNatClampNeg (w.1 110 (Int32.toNatClampNeg x3))) x3) [q_id 116 12 79, q_id 116 12 79, q_id 116 14 110, vp_in x3 6, q_id 116 14 112, vp_in (w.1 110 (Int32.toNatClampNeg x3)) 61] (by decide +kernel) (by refine qt_aload_n (r := 79) rfl ?_; refine qt_getR (r := 112) rfl rfl rfl ?_; refine qt_aload_n (r := 79) rfl ?_; refine qt_getR (r := 110) rfl rfl rfl ?_; refine qt_iload_n (x := x3) rfl ?_; refine qt_iald ?_; refine qt_iload_n (x := x3) rfl ?_; refine qt_iast ?_; refine qt_iinc (x := x2) (L' := [some (.ref (79)), some (.int (x1)), some (.int (x2 + 1)), some (.int (x3)), none]) rfl qc_1 rfl ?_; refine qt_iinc (x := x3) (L' := [some (.ref (79)), some (.int (x1)), some (.int (x2 + 1)), some (.int (x3 + 1)), none]) rfl qc_1 rfl ?_; refine qt_goto ?_; exact qt_z rfl rfl rfl rfl rfl) ⟨(q_id_of rfl), (q_id_of rfl), (q_id_of rfl), ho4, (q_id_of rfl), ho5⟩ ?_
      exact h
    · replace h := h.2 hc
      refine s_blk [(.goto 18, 3, 58, 0), (.iinc 3 1, 3, 0, 0), (.goto (-36), 3, 25, 0)] 25 [some (.ref (79)), some (.int (x1)), some (.int (x2)), some (.int (x3 + 1)), none] [] w [] (by decide +kernel) (by refine qt_goto ?_; refine qt_iinc (x := x3) (L' := [some (.ref (79)), some (.int (x1)), some (.int (x2)), some (.int (x3 + 1)), none]) rfl qc_1 rfl ?_; refine qt_goto ?_; exact qt_z rfl rfl rfl rfl rfl) trivial ?_
      exact h
theorem xX12_mostWith_66 {d : Nat} {x1 : Int32} {x2 : Int32} {x3 : Int32} {w : q_Sm} {Q : s_Po} {X : s_Xo} (h : vX12_mostWith_66 d x1 x2 x3 w Q X) : s_Ex (d + 1) 0 mX12_mostWith 66 [some (.ref (79)), some (.int (x1)), some (.int (x2)), some (.int (x3)), none] [] w Q X := by
  unfold vX12_mostWith_66 at h
  refine s_blk [(.iload_n 3, 1, 0, 0), (.aload_n 0, 1, 0, 0), (.getfield 202, 3, 12, 32)] 71 [some (.ref (79)), some (.int (x1)), some (.int (x2)), some (.int (x3)), none] [.int (w.1 79 32), .int (x3)] w [q_id 116 12 79] (by decide +kernel) (by refine qt_iload_n (x := x3) rfl ?_; refine qt_aload_n (r := 79) rfl ?_; refine qt_getI rfl rfl ?_; exact qt_z rfl rfl rfl rfl rfl) (q_id_of rfl) ?_
  refine s_icmp (cd := .ge) (off := 50) 121 (by decide +kernel) (by decide) (fun hc => ?_) (fun hc => ?_)
  · replace h := h.1 hc
    refine s_blk [(.iload_n 2, 1, 0, 0)] 122 [some (.ref (79)), some (.int (x1)), some (.int (x2)), some (.int (x3)), none] [.int (x2)] w [] (by decide +kernel) (by refine qt_iload_n (x := x2) rfl ?_; exact qt_z rfl rfl rfl rfl rfl) trivial ?_
    exact s_retI .int (by decide +kernel) rfl rfl h
  · replace h := h.2 hc
    refine s_blk [(.iconst 0, 1, 0, 0), (.istore 4, 2, 0, 0)] 77 [some (.ref (79)), some (.int (x1)), some (.int (x2)), some (.int (x3)), some (.int (0))] [] w [] (by decide +kernel) (by refine qt_iconst qc_0 ?_; refine qt_istore (L' := [some (.ref (79)), some (.int (x1)), some (.int (x2)), some (.int (x3)), some (.int (0))]) rfl ?_; exact qt_z rfl rfl rfl rfl rfl) trivial ?_
    exact h
theorem xX12_mostWith_77 {d : Nat} {x1 : Int32} {x2 : Int32} {x3 : Int32} {x4 : Int32} {w : q_Sm} {Q : s_Po} {X : s_Xo} (h : vX12_mostWith_77 d x1 x2 x3 x4 w Q X) : s_Ex (d + 1) 0 mX12_mostWith 77 [some (.ref (79)), some (.int (x1)), some (.int (x2)), some (.int (x3)), some (.int (x4))] [] w Q X := by
  unfold vX12_mostWith_77 at h
  refine s_blk [(.iload 4, 2, 0, 0), (.bipush 60, 2, 0, 0)] 81 [some (.ref (79)), some (.int (x1)), some (.int (x2)), some (.int (x3)), some (.int (x4))] [.int (60), .int (x4)] w [] (by decide +kernel) (by refine qt_iload (x := x4) rfl ?_; refine qt_bipush qb_60 ?_; exact qt_z rfl rfl rfl rfl rfl) trivial ?_
  refine s_icmp (cd := .gt) (off := 17) 98 (by decide +kernel) (by decide) (fun hc => ?_) (fun hc => ?_)
  · replace h := h.1 hc
    refine s_blk [(.iload_n 2, 1, 0, 0), (.aload_n 0, 1, 0, 0), (.iload_n 3, 1, 0, 0), (.iload_n 1, 1, 0, 0)] 102 [some (.ref (79)), some (.int (x1)), some (.int (x2)), some (.int (x3)), some (.int (x4))] [.int (x1), .int (x3), .ref (79), .int (x2)] w [] (by decide +kernel) (by refine qt_iload_n (x := x2) rfl ?_; refine qt_aload_n (r := 79) rfl ?_; refine qt_iload_n (x := x3) rfl ?_; refine qt_iload_n (x := x1) rfl ?_; exact qt_z rfl rfl rfl rfl rfl) trivial ?_
    refine s_callV (a := 0) (a' := 0) (As := [.int (x3), .int (x1)]) (id := 79) (st := [.int (x2)]) kX12_finds l_12_445 (by decide +kernel) (q_id_of rfl) rfl (Nat.le_of_ble_eq_true rfl) (s_mono h (s_I_of (fun v7 u8 h => ?_)) (fun _ _ h9 => h9))
    show s_Ex (d + 1) 0 mX12_mostWith 105 [some (.ref (79)), some (.int (x1)), some (.int (x2)), some (.int (x3)), some (.int (x4))] [.int (v7), .int (x2)] u8 Q X
    refine s_if (cd := .eq) (off := 7) 112 (by decide +kernel) (by decide) (fun hc => ?_) (fun hc => ?_)
    · replace h := h.1 hc
      refine s_blk [(.iconst 0, 1, 0, 0), (.iadd, 1, 0, 0), (.istore_n 2, 1, 0, 0), (.iinc 3 1, 3, 0, 0), (.goto (-52), 3, 66, 0), (.nop, 0, 4, 0)] 66 [some (.ref (79)), some (.int (x1)), some (.int (x2 + 0)), some (.int (x3 + 1)), none] [] u8 [] (by decide +kernel) (by refine qt_iconst qc_0 ?_; refine qt_iadd ?_; refine qt_istore_n (L' := [some (.ref (79)), some (.int (x1)), some (.int (x2 + 0)), some (.int (x3)), some (.int (x4))]) rfl ?_; refine qt_iinc (x := x3) (L' := [some (.ref (79)), some (.int (x1)), some (.int (x2 + 0)), some (.int (x3 + 1)), some (.int (x4))]) rfl qc_1 rfl ?_; refine qt_goto ?_; refine qt_nop (L' := [some (.ref (79)), some (.int (x1)), some (.int (x2 + 0)), some (.int (x3 + 1)), none]) rfl ?_; exact qt_z rfl rfl rfl rfl rfl) trivial ?_
      exact h
    · replace h := h.2 hc
      refine s_blk [(.iconst 1, 1, 0, 0), (.goto 4, 3, 113, 0), (.iadd, 1, 0, 0), (.istore_n 2, 1, 0, 0), (.iinc 3 1, 3, 0, 0), (.goto (-52), 3, 66, 0), (.nop, 0, 4, 0)] 66 [some (.ref (79)), some (.int (x1)), some (.int (x2 + 1)), some (.int (x3 + 1)), none] [] u8 [] (by decide +kernel) (by refine qt_iconst qc_1 ?_; refine qt_goto ?_; refine qt_iadd ?_; refine qt_istore_n (L' := [some (.ref (79)), some (.int (x1)), some (.int (x2 + 1)), some (.int (x3)), some (.int (x4))]) rfl ?_; refine qt_iinc (x := x3) (L' := [some (.ref (79)), some (.int (x1)), some (.int (x2 + 1)), some (.int (x3 + 1)), some (.int (x4))]) rfl qc_1 rfl ?_; refine qt_goto ?_; refine qt_nop (L' := [some (.ref (79)), some (.int (x1)), some (.int (x2 + 1)), some (.int (x3 + 1)), none]) rfl ?_; exact qt_z rfl rfl rfl rfl rfl) trivial ?_
      exact h
  · replace h := h.2 hc
    obtain ⟨ho10, h⟩ := h
    replace h := h _ rfl
    refine s_blk [(.aload_n 0, 1, 0, 0), (.getfield 116, 3, 12, 60), (.iload 4, 2, 0, 0), (.iconst 0, 1, 0, 0), (.bastore, 1, 16, 0), (.iinc 4 1, 3, 0, 0), (.goto (-18), 3, 77, 0)] 77 [some (.ref (79)), some (.int (x1)), some (.int (x2)), some (.int (x3)), some (.int (x4 + 1))] [] (q_wI w 113 (Int32.toNatClampNeg x4) (vp_nar (if 16 = 13 then .byte else .boolean) 0)) [q_id 116 12 79, q_id 116 16 113, vp_in x4 61] (by decide +kernel) (by refine qt_aload_n (r := 79) rfl ?_; refine qt_getR (r := 113) rfl rfl rfl ?_; refine qt_iload (x := x4) rfl ?_; refine qt_iconst qc_0 ?_; refine qt_bast ?_; refine qt_iinc (x := x4) (L' := [some (.ref (79)), some (.int (x1)), some (.int (x2)), some (.int (x3)), some (.int (x4 + 1))]) rfl qc_1 rfl ?_; refine qt_goto ?_; exact qt_z rfl rfl rfl rfl rfl) ⟨(q_id_of rfl), (q_id_of rfl), ho10⟩ ?_
    exact h
theorem eX12_mostWith {d : Nat} {x1 : Int32} {w : q_Sm} {Q : s_Po} {X : s_Xo} (h : vX12_mostWith_0 d x1 w Q X) : s_Ev (d + 1) 0 mX12_mostWith w [.ref (79), .int (x1)] Q X := s_of (by decide +kernel) rfl (Nat.le_of_ble_eq_true rfl) (xX12_mostWith_0 h)
def vX12_isTaken_0 (d : Nat) (x1 : Int32) (x2 : Int32) (w : q_Sm) (Q : s_Po) (X : s_Xo) : Prop := s_Ex (d + 1) 0 mX12_isTaken 2 [some (.ref (79)), some (.int (x1)), some (.int (x2)), some (.int (0))] [] w Q X
def vX12_isTaken_2 (d : Nat) (x1 : Int32) (x2 : Int32) (x3 : Int32) (w : q_Sm) (Q : s_Po) (X : s_Xo) : Prop := ((x2 ≤ x3) → Q (some (.int (0))) w) ∧ (¬ (x2 ≤ x3) → (vp_in x3 6) ∧ ((¬ (w.1 110 (Int32.toNatClampNeg x3)) = x1) → s_Ex (d + 1) 0 mX12_isTaken 2 [some (.ref (79)), some (.int (x1)), some (.int (x2)), some (.int (x3 + 1))] [] w Q X) ∧ (¬ (¬ (w.1 110 (Int32.toNatClampNeg x3)) = x1) → Q (some (.int (1))) w))
theorem xX12_isTaken_0 {d : Nat} {x1 : Int32} {x2 : Int32} {w : q_Sm} {Q : s_Po} {X : s_Xo} (h : vX12_isTaken_0 d x1 x2 w Q X) : s_Ex (d + 1) 0 mX12_isTaken 0 [some (.ref (79)), some (.int (x1)), some (.int (x2)), none] [] w Q X := by
  unfold vX12_isTaken_0 at h
  refine s_blk [(.iconst 0, 1, 0, 0), (.istore_n 3, 1, 0, 0)] 2 [some (.ref (79)), some (.int (x1)), some (.int (x2)), some (.int (0))] [] w [] (by decide +kernel) (by refine qt_iconst qc_0 ?_; refine qt_istore_n (L' := [some (.ref (79)), some (.int (x1)), some (.int (x2)), some (.int (0))]) rfl ?_; exact qt_z rfl rfl rfl rfl rfl) trivial ?_
  exact h
theorem xX12_isTaken_2 {d : Nat} {x1 : Int32} {x2 : Int32} {x3 : Int32} {w : q_Sm} {Q : s_Po} {X : s_Xo} (h : vX12_isTaken_2 d x1 x2 x3 w Q X) : s_Ex (d + 1) 0 mX12_isTaken 2 [some (.ref (79)), some (.int (x1)), some (.int (x2)), some (.int (x3))] [] w Q X := by
  unfold vX12_isTaken_2 at h
  refine s_blk [(.iload_n 3, 1, 0, 0), (.iload_n 2, 1, 0, 0)] 4 [some (.ref (79)), some (.int (x1)), some (.int (x2)), some (.int (x3))] [.int (x2), .int (x3)] w [] (by decide +kernel) (by refine qt_iload_n (x := x3) rfl ?_; refine qt_iload_n (x := x2) rfl ?_; exact qt_z rfl rfl rfl rfl rfl) trivial ?_
  refine s_icmp (cd := .ge) (off := 21) 25 (by decide +kernel) (by decide) (fun hc => ?_) (fun hc => ?_)
  · replace h := h.1 hc
    refine s_blk [(.iconst 0, 1, 0, 0)] 26 [some (.ref (79)), some (.int (x1)), some (.int (x2)), some (.int (x3))] [.int (0)] w [] (by decide +kernel) (by refine qt_iconst qc_0 ?_; exact qt_z rfl rfl rfl rfl rfl) trivial ?_
    exact s_retI .boolean (by decide +kernel) rfl rfl h
  · replace h := h.2 hc
    obtain ⟨ho1, h⟩ := h
    refine s_blk [(.aload_n 0, 1, 0, 0), (.getfield 107, 3, 12, 57), (.iload_n 3, 1, 0, 0), (.iaload, 1, 0, 0), (.iload_n 1, 1, 0, 0)] 14 [some (.ref (79)), some (.int (x1)), some (.int (x2)), some (.int (x3))] [.int (x1), .int (w.1 110 (Int32.toNatClampNeg x3))] w [q_id 116 12 79, q_id 116 14 110, vp_in x3 6] (by decide +kernel) (by refine qt_aload_n (r := 79) rfl ?_; refine qt_getR (r := 110) rfl rfl rfl ?_; refine qt_iload_n (x := x3) rfl ?_; refine qt_iald ?_; refine qt_iload_n (x := x1) rfl ?_; exact qt_z rfl rfl rfl rfl rfl) ⟨(q_id_of rfl), (q_id_of rfl), ho1⟩ ?_
    refine s_icmp (cd := .ne) (off := 5) 19 (by decide +kernel) (by decide) (fun hc => ?_) (fun hc => ?_)
    · replace h := h.1 hc
      refine s_blk [(.iinc 3 1, 3, 0, 0), (.goto (-20), 3, 2, 0)] 2 [some (.ref (79)), some (.int (x1)), some (.int (x2)), some (.int (x3 + 1))] [] w [] (by decide +kernel) (by refine qt_iinc (x := x3) (L' := [some (.ref (79)), some (.int (x1)), some (.int (x2)), some (.int (x3 + 1))]) rfl qc_1 rfl ?_; refine qt_goto ?_; exact qt_z rfl rfl rfl rfl rfl) trivial ?_
      exact h
    · replace h := h.2 hc
      refine s_blk [(.iconst 1, 1, 0, 0)] 18 [some (.ref (79)), some (.int (x1)), some (.int (x2)), some (.int (x3))] [.int (1)] w [] (by decide +kernel) (by refine qt_iconst qc_1 ?_; exact qt_z rfl rfl rfl rfl rfl) trivial ?_
      exact s_retI .boolean (by decide +kernel) rfl rfl h
theorem eX12_isTaken {d : Nat} {x1 : Int32} {x2 : Int32} {w : q_Sm} {Q : s_Po} {X : s_Xo} (h : vX12_isTaken_0 d x1 x2 w Q X) : s_Ev (d + 1) 0 mX12_isTaken w [.ref (79), .int (x1), .int (x2)] Q X := s_of (by decide +kernel) rfl (Nat.le_of_ble_eq_true rfl) (xX12_isTaken_0 h)
def vX12_findWeddings_0 (d : Nat)  (w : q_Sm) (Q : s_Po) (X : s_Xo) : Prop := s_EvI d 0 mX12_mostWith w [.ref (79), .int (0)] (fun v1 u2 => s_Ex (d + 1) 0 mX12_findWeddings 8 [some (.ref (79)), some (.int (v1)), some (.int (0)), none, none] [] u2 Q X) X
def vX12_findWeddings_8 (d : Nat) (x1 : Int32) (x2 : Int32) (w : q_Sm) (Q : s_Po) (X : s_Xo) : Prop := (((w.1 79 32) ≤ x2) → Q (some (.int (x1))) w) ∧ (¬ ((w.1 79 32) ≤ x2) → s_Ex (d + 1) 0 mX12_findWeddings 21 [some (.ref (79)), some (.int (x1)), some (.int (x2)), some (.int (-1)), some (.int (0))] [] w Q X)
def vX12_findWeddings_21 (d : Nat) (x1 : Int32) (x2 : Int32) (x3 : Int32) (x4 : Int32) (w : q_Sm) (Q : s_Po) (X : s_Xo) : Prop := ((60 < x4) → (vp_in x2 6) ∧ ∀ w_3 : q_Sm, w_3 = q_wI w 110 (Int32.toNatClampNeg x2) x3 → s_Ex (d + 1) 0 mX12_findWeddings 8 [some (.ref (79)), some (.int (x1)), some (.int (x2 + 1)), none, none] [] w_3 Q X) ∧ (¬ (60 < x4) → ((¬ x3 = (-1)) → (vp_in x2 6) ∧ ∀ w_5 : q_Sm, w_5 = q_wI w 110 (Int32.toNatClampNeg x2) x3 → s_Ex (d + 1) 0 mX12_findWeddings 8 [some (.ref (79)), some (.int (x1)), some (.int (x2 + 1)), none, none] [] w_5 Q X) ∧ (¬ (¬ x3 = (-1)) → s_EvI d 0 mX12_canWed w [.ref (79), .int (x2), .int (x4)] (fun v7 u8 => ((v7 = 0) → s_Ex (d + 1) 0 mX12_findWeddings 21 [some (.ref (79)), some (.int (x1)), some (.int (x2)), some (.int (x3)), some (.int (x4 + 1))] [] u8 Q X) ∧ (¬ (v7 = 0) → s_EvI d 0 mX12_isTaken u8 [.ref (79), .int (x4), .int (x2)] (fun v9 u10 => ((v9 = 0) → (vp_in x2 6) ∧ ∀ w_11 : q_Sm, w_11 = q_wI u10 110 (Int32.toNatClampNeg x2) x4 → s_EvI d 0 mX12_mostWith w_11 [.ref (79), .int (x2 + 1)] (fun v12 u13 => ((¬ v12 = x1) → s_Ex (d + 1) 0 mX12_findWeddings 21 [some (.ref (79)), some (.int (x1)), some (.int (x2)), some (.int (x3)), some (.int (x4 + 1))] [] u13 Q X) ∧ (¬ (¬ v12 = x1) → s_Ex (d + 1) 0 mX12_findWeddings 21 [some (.ref (79)), some (.int (x1)), some (.int (x2)), some (.int (x4)), some (.int (x4 + 1))] [] u13 Q X)) X) ∧ (¬ (v9 = 0) → s_Ex (d + 1) 0 mX12_findWeddings 21 [some (.ref (79)), some (.int (x1)), some (.int (x2)), some (.int (x3)), some (.int (x4 + 1))] [] u10 Q X)) X)) X))
theorem xX12_findWeddings_0 {d : Nat}  {w : q_Sm} {Q : s_Po} {X : s_Xo} (h : vX12_findWeddings_0 d  w Q X) : s_Ex (d + 1) 0 mX12_findWeddings 0 [some (.ref (79)), none, none, none, none] [] w Q X := by
  unfold vX12_findWeddings_0 at h
  refine s_blk [(.aload_n 0, 1, 0, 0), (.iconst 0, 1, 0, 0)] 2 [some (.ref (79)), none, none, none, none] [.int (0), .ref (79)] w [] (by decide +kernel) (by refine qt_aload_n (r := 79) rfl ?_; refine qt_iconst qc_0 ?_; exact qt_z rfl rfl rfl rfl rfl) trivial ?_
  refine s_callV (a := 0) (a' := 0) (As := [.int (0)]) (id := 79) (st := []) kX12_mostWith l_12_448 (by decide +kernel) (q_id_of rfl) rfl (Nat.le_of_ble_eq_true rfl) (s_mono h (s_I_of (fun v1 u2 h => ?_)) (fun _ _ h9 => h9))
  show s_Ex (d + 1) 0 mX12_findWeddings 5 [some (.ref (79)), none, none, none, none] [.int (v1)] u2 Q X
  refine s_blk [(.istore_n 1, 1, 0, 0), (.iconst 0, 1, 0, 0), (.istore_n 2, 1, 0, 0)] 8 [some (.ref (79)), some (.int (v1)), some (.int (0)), none, none] [] u2 [] (by decide +kernel) (by refine qt_istore_n (L' := [some (.ref (79)), some (.int (v1)), none, none, none]) rfl ?_; refine qt_iconst qc_0 ?_; refine qt_istore_n (L' := [some (.ref (79)), some (.int (v1)), some (.int (0)), none, none]) rfl ?_; exact qt_z rfl rfl rfl rfl rfl) trivial ?_
  exact h
theorem xX12_findWeddings_8 {d : Nat} {x1 : Int32} {x2 : Int32} {w : q_Sm} {Q : s_Po} {X : s_Xo} (h : vX12_findWeddings_8 d x1 x2 w Q X) : s_Ex (d + 1) 0 mX12_findWeddings 8 [some (.ref (79)), some (.int (x1)), some (.int (x2)), none, none] [] w Q X := by
  unfold vX12_findWeddings_8 at h
  refine s_blk [(.iload_n 2, 1, 0, 0), (.aload_n 0, 1, 0, 0), (.getfield 202, 3, 12, 32)] 13 [some (.ref (79)), some (.int (x1)), some (.int (x2)), none, none] [.int (w.1 79 32), .int (x2)] w [q_id 116 12 79] (by decide +kernel) (by refine qt_iload_n (x := x2) rfl ?_; refine qt_aload_n (r := 79) rfl ?_; refine qt_getI rfl rfl ?_; exact qt_z rfl rfl rfl rfl rfl) (q_id_of rfl) ?_
  refine s_icmp (cd := .ge) (off := 84) 97 (by decide +kernel) (by decide) (fun hc => ?_) (fun hc => ?_)
  · replace h := h.1 hc
    refine s_blk [(.iload_n 1, 1, 0, 0)] 98 [some (.ref (79)), some (.int (x1)), some (.int (x2)), none, none] [.int (x1)] w [] (by decide +kernel) (by refine qt_iload_n (x := x1) rfl ?_; exact qt_z rfl rfl rfl rfl rfl) trivial ?_
    exact s_retI .int (by decide +kernel) rfl rfl h
  · replace h := h.2 hc
    refine s_blk [(.iconst (-1), 1, 0, 0), (.istore_n 3, 1, 0, 0), (.iconst 0, 1, 0, 0), (.istore 4, 2, 0, 0)] 21 [some (.ref (79)), some (.int (x1)), some (.int (x2)), some (.int (-1)), some (.int (0))] [] w [] (by decide +kernel) (by refine qt_iconst qc_m1 ?_; refine qt_istore_n (L' := [some (.ref (79)), some (.int (x1)), some (.int (x2)), some (.int (-1)), none]) rfl ?_; refine qt_iconst qc_0 ?_; refine qt_istore (L' := [some (.ref (79)), some (.int (x1)), some (.int (x2)), some (.int (-1)), some (.int (0))]) rfl ?_; exact qt_z rfl rfl rfl rfl rfl) trivial ?_
    exact h
theorem xX12_findWeddings_21 {d : Nat} {x1 : Int32} {x2 : Int32} {x3 : Int32} {x4 : Int32} {w : q_Sm} {Q : s_Po} {X : s_Xo} (h : vX12_findWeddings_21 d x1 x2 x3 x4 w Q X) : s_Ex (d + 1) 0 mX12_findWeddings 21 [some (.ref (79)), some (.int (x1)), some (.int (x2)), some (.int (x3)), some (.int (x4))] [] w Q X := by
  unfold vX12_findWeddings_21 at h
  refine s_blk [(.iload 4, 2, 0, 0), (.bipush 60, 2, 0, 0)] 25 [some (.ref (79)), some (.int (x1)), some (.int (x2)), some (.int (x3)), some (.int (x4))] [.int (60), .int (x4)] w [] (by decide +kernel) (by refine qt_iload (x := x4) rfl ?_; refine qt_bipush qb_60 ?_; exact qt_z rfl rfl rfl rfl rfl) trivial ?_
  refine s_icmp (cd := .gt) (off := 59) 84 (by decide +kernel) (by decide) (fun hc => ?_) (fun hc => ?_)
  · replace h := h.1 hc
    obtain ⟨ho4, h⟩ := h
    replace h := h _ rfl
    refine s_blk [(.aload_n 0, 1, 0, 0), (.getfield 107, 3, 12, 57), (.iload_n 2, 1, 0, 0), (.iload_n 3, 1, 0, 0), (.iastore, 1, 0, 0), (.iinc 2 1, 3, 0, 0), (.goto (-86), 3, 8, 0), (.nop, 0, 3, 0), (.nop, 0, 4, 0)] 8 [some (.ref (79)), some (.int (x1)), some (.int (x2 + 1)), none, none] [] (q_wI w 110 (Int32.toNatClampNeg x2) x3) [q_id 116 12 79, q_id 116 14 110, vp_in x2 6] (by decide +kernel) (by refine qt_aload_n (r := 79) rfl ?_; refine qt_getR (r := 110) rfl rfl rfl ?_; refine qt_iload_n (x := x2) rfl ?_; refine qt_iload_n (x := x3) rfl ?_; refine qt_iast ?_; refine qt_iinc (x := x2) (L' := [some (.ref (79)), some (.int (x1)), some (.int (x2 + 1)), some (.int (x3)), some (.int (x4))]) rfl qc_1 rfl ?_; refine qt_goto ?_; refine qt_nop (L' := [some (.ref (79)), some (.int (x1)), some (.int (x2 + 1)), none, some (.int (x4))]) rfl ?_; refine qt_nop (L' := [some (.ref (79)), some (.int (x1)), some (.int (x2 + 1)), none, none]) rfl ?_; exact qt_z rfl rfl rfl rfl rfl) ⟨(q_id_of rfl), (q_id_of rfl), ho4⟩ ?_
    exact h
  · replace h := h.2 hc
    refine s_blk [(.iload_n 3, 1, 0, 0), (.iconst (-1), 1, 0, 0)] 30 [some (.ref (79)), some (.int (x1)), some (.int (x2)), some (.int (x3)), some (.int (x4))] [.int (-1), .int (x3)] w [] (by decide +kernel) (by refine qt_iload_n (x := x3) rfl ?_; refine qt_iconst qc_m1 ?_; exact qt_z rfl rfl rfl rfl rfl) trivial ?_
    refine s_icmp (cd := .ne) (off := 54) 84 (by decide +kernel) (by decide) (fun hc => ?_) (fun hc => ?_)
    · replace h := h.1 hc
      obtain ⟨ho6, h⟩ := h
      replace h := h _ rfl
      refine s_blk [(.aload_n 0, 1, 0, 0), (.getfield 107, 3, 12, 57), (.iload_n 2, 1, 0, 0), (.iload_n 3, 1, 0, 0), (.iastore, 1, 0, 0), (.iinc 2 1, 3, 0, 0), (.goto (-86), 3, 8, 0), (.nop, 0, 3, 0), (.nop, 0, 4, 0)] 8 [some (.ref (79)), some (.int (x1)), some (.int (x2 + 1)), none, none] [] (q_wI w 110 (Int32.toNatClampNeg x2) x3) [q_id 116 12 79, q_id 116 14 110, vp_in x2 6] (by decide +kernel) (by refine qt_aload_n (r := 79) rfl ?_; refine qt_getR (r := 110) rfl rfl rfl ?_; refine qt_iload_n (x := x2) rfl ?_; refine qt_iload_n (x := x3) rfl ?_; refine qt_iast ?_; refine qt_iinc (x := x2) (L' := [some (.ref (79)), some (.int (x1)), some (.int (x2 + 1)), some (.int (x3)), some (.int (x4))]) rfl qc_1 rfl ?_; refine qt_goto ?_; refine qt_nop (L' := [some (.ref (79)), some (.int (x1)), some (.int (x2 + 1)), none, some (.int (x4))]) rfl ?_; refine qt_nop (L' := [some (.ref (79)), some (.int (x1)), some (.int (x2 + 1)), none, none]) rfl ?_; exact qt_z rfl rfl rfl rfl rfl) ⟨(q_id_of rfl), (q_id_of rfl), ho6⟩ ?_
      exact h
    · replace h := h.2 hc
      refine s_blk [(.aload_n 0, 1, 0, 0), (.iload_n 2, 1, 0, 0), (.iload 4, 2, 0, 0)] 37 [some (.ref (79)), some (.int (x1)), some (.int (x2)), some (.int (x3)), some (.int (x4))] [.int (x4), .int (x2), .ref (79)] w [] (by decide +kernel) (by refine qt_aload_n (r := 79) rfl ?_; refine qt_iload_n (x := x2) rfl ?_; refine qt_iload (x := x4) rfl ?_; exact qt_z rfl rfl rfl rfl rfl) trivial ?_
      refine s_callV (a := 0) (a' := 0) (As := [.int (x2), .int (x4)]) (id := 79) (st := []) kX12_canWed l_12_442 (by decide +kernel) (q_id_of rfl) rfl (Nat.le_of_ble_eq_true rfl) (s_mono h (s_I_of (fun v7 u8 h => ?_)) (fun _ _ h9 => h9))
      show s_Ex (d + 1) 0 mX12_findWeddings 40 [some (.ref (79)), some (.int (x1)), some (.int (x2)), some (.int (x3)), some (.int (x4))] [.int (v7)] u8 Q X
      refine s_if (cd := .eq) (off := 38) 78 (by decide +kernel) (by decide) (fun hc => ?_) (fun hc => ?_)
      · replace h := h.1 hc
        refine s_blk [(.iinc 4 1, 3, 0, 0), (.goto (-60), 3, 21, 0)] 21 [some (.ref (79)), some (.int (x1)), some (.int (x2)), some (.int (x3)), some (.int (x4 + 1))] [] u8 [] (by decide +kernel) (by refine qt_iinc (x := x4) (L' := [some (.ref (79)), some (.int (x1)), some (.int (x2)), some (.int (x3)), some (.int (x4 + 1))]) rfl qc_1 rfl ?_; refine qt_goto ?_; exact qt_z rfl rfl rfl rfl rfl) trivial ?_
        exact h
      · replace h := h.2 hc
        refine s_blk [(.aload_n 0, 1, 0, 0), (.iload 4, 2, 0, 0), (.iload_n 2, 1, 0, 0)] 47 [some (.ref (79)), some (.int (x1)), some (.int (x2)), some (.int (x3)), some (.int (x4))] [.int (x2), .int (x4), .ref (79)] u8 [] (by decide +kernel) (by refine qt_aload_n (r := 79) rfl ?_; refine qt_iload (x := x4) rfl ?_; refine qt_iload_n (x := x2) rfl ?_; exact qt_z rfl rfl rfl rfl rfl) trivial ?_
        refine s_callV (a := 0) (a' := 0) (As := [.int (x4), .int (x2)]) (id := 79) (st := []) kX12_isTaken l_12_451 (by decide +kernel) (q_id_of rfl) rfl (Nat.le_of_ble_eq_true rfl) (s_mono h (s_I_of (fun v9 u10 h => ?_)) (fun _ _ h9 => h9))
        show s_Ex (d + 1) 0 mX12_findWeddings 50 [some (.ref (79)), some (.int (x1)), some (.int (x2)), some (.int (x3)), some (.int (x4))] [.int (v9)] u10 Q X
        refine s_if (cd := .eq) (off := 6) 56 (by decide +kernel) (by decide) (fun hc => ?_) (fun hc => ?_)
        · replace h := h.1 hc
          obtain ⟨ho14, h⟩ := h
          replace h := h _ rfl
          refine s_blk [(.aload_n 0, 1, 0, 0), (.getfield 107, 3, 12, 57), (.iload_n 2, 1, 0, 0), (.iload 4, 2, 0, 0), (.iastore, 1, 0, 0), (.aload_n 0, 1, 0, 0), (.iload_n 2, 1, 0, 0), (.iconst 1, 1, 0, 0), (.iadd, 1, 0, 0)] 68 [some (.ref (79)), some (.int (x1)), some (.int (x2)), some (.int (x3)), some (.int (x4))] [.int (x2 + 1), .ref (79)] (q_wI u10 110 (Int32.toNatClampNeg x2) x4) [q_id 116 12 79, q_id 116 14 110, vp_in x2 6] (by decide +kernel) (by refine qt_aload_n (r := 79) rfl ?_; refine qt_getR (r := 110) rfl rfl rfl ?_; refine qt_iload_n (x := x2) rfl ?_; refine qt_iload (x := x4) rfl ?_; refine qt_iast ?_; refine qt_aload_n (r := 79) rfl ?_; refine qt_iload_n (x := x2) rfl ?_; refine qt_iconst qc_1 ?_; refine qt_iadd ?_; exact qt_z rfl rfl rfl rfl rfl) ⟨(q_id_of rfl), (q_id_of rfl), ho14⟩ ?_
          refine s_callV (a := 0) (a' := 0) (As := [.int (x2 + 1)]) (id := 79) (st := []) kX12_mostWith l_12_448 (by decide +kernel) (q_id_of rfl) rfl (Nat.le_of_ble_eq_true rfl) (s_mono h (s_I_of (fun v12 u13 h => ?_)) (fun _ _ h9 => h9))
          show s_Ex (d + 1) 0 mX12_findWeddings 71 [some (.ref (79)), some (.int (x1)), some (.int (x2)), some (.int (x3)), some (.int (x4))] [.int (v12)] u13 Q X
          refine s_blk [(.iload_n 1, 1, 0, 0)] 72 [some (.ref (79)), some (.int (x1)), some (.int (x2)), some (.int (x3)), some (.int (x4))] [.int (x1), .int (v12)] u13 [] (by decide +kernel) (by refine qt_iload_n (x := x1) rfl ?_; exact qt_z rfl rfl rfl rfl rfl) trivial ?_
          refine s_icmp (cd := .ne) (off := 6) 78 (by decide +kernel) (by decide) (fun hc => ?_) (fun hc => ?_)
          · replace h := h.1 hc
            refine s_blk [(.iinc 4 1, 3, 0, 0), (.goto (-60), 3, 21, 0)] 21 [some (.ref (79)), some (.int (x1)), some (.int (x2)), some (.int (x3)), some (.int (x4 + 1))] [] u13 [] (by decide +kernel) (by refine qt_iinc (x := x4) (L' := [some (.ref (79)), some (.int (x1)), some (.int (x2)), some (.int (x3)), some (.int (x4 + 1))]) rfl qc_1 rfl ?_; refine qt_goto ?_; exact qt_z rfl rfl rfl rfl rfl) trivial ?_
            exact h
          · replace h := h.2 hc
            refine s_blk [(.iload 4, 2, 0, 0), (.istore_n 3, 1, 0, 0), (.iinc 4 1, 3, 0, 0), (.goto (-60), 3, 21, 0)] 21 [some (.ref (79)), some (.int (x1)), some (.int (x2)), some (.int (x4)), some (.int (x4 + 1))] [] u13 [] (by decide +kernel) (by refine qt_iload (x := x4) rfl ?_; refine qt_istore_n (L' := [some (.ref (79)), some (.int (x1)), some (.int (x2)), some (.int (x4)), some (.int (x4))]) rfl ?_; refine qt_iinc (x := x4) (L' := [some (.ref (79)), some (.int (x1)), some (.int (x2)), some (.int (x4)), some (.int (x4 + 1))]) rfl qc_1 rfl ?_; refine qt_goto ?_; exact qt_z rfl rfl rfl rfl rfl) trivial ?_
            exact h
        · replace h := h.2 hc
          refine s_blk [(.goto 25, 3, 78, 0), (.iinc 4 1, 3, 0, 0), (.goto (-60), 3, 21, 0)] 21 [some (.ref (79)), some (.int (x1)), some (.int (x2)), some (.int (x3)), some (.int (x4 + 1))] [] u10 [] (by decide +kernel) (by refine qt_goto ?_; refine qt_iinc (x := x4) (L' := [some (.ref (79)), some (.int (x1)), some (.int (x2)), some (.int (x3)), some (.int (x4 + 1))]) rfl qc_1 rfl ?_; refine qt_goto ?_; exact qt_z rfl rfl rfl rfl rfl) trivial ?_
          exact h
theorem eX12_findWeddings {d : Nat}  {w : q_Sm} {Q : s_Po} {X : s_Xo} (h : vX12_findWeddings_0 d  w Q X) : s_Ev (d + 1) 0 mX12_findWeddings w [.ref (79)] Q X := s_of (by decide +kernel) rfl (Nat.le_of_ble_eq_true rfl) (xX12_findWeddings_0 h)
def vX12_matched_0 (d : Nat)  (w : q_Sm) (Q : s_Po) (X : s_Xo) : Prop := ∀ w_1 : q_Sm, w_1 = q_wI w 79 0 0 → s_EvI d 0 mX12_findWeddings w_1 [.ref (79)] (fun v2 u3 => Q (some (.int (v2))) u3) X
theorem xX12_matched_0 {d : Nat}  {w : q_Sm} {Q : s_Po} {X : s_Xo} (h : vX12_matched_0 d  w Q X) : s_Ex (d + 1) 0 mX12_matched 0 [some (.ref (79))] [] w Q X := by
  unfold vX12_matched_0 at h
  replace h := h _ rfl
  refine s_blk [(.aload_n 0, 1, 0, 0), (.iconst 0, 1, 0, 0), (.putfield 3, 3, 12, 0), (.aload_n 0, 1, 0, 0)] 6 [some (.ref (79))] [.ref (79)] (q_wI w 79 0 0) [q_id 116 12 79] (by decide +kernel) (by refine qt_aload_n (r := 79) rfl ?_; refine qt_iconst qc_0 ?_; refine qt_putI rfl ?_; refine qt_aload_n (r := 79) rfl ?_; exact qt_z rfl rfl rfl rfl rfl) (q_id_of rfl) ?_
  refine s_callV (a := 0) (a' := 0) (As := []) (id := 79) (st := []) kX12_findWeddings l_12_454 (by decide +kernel) (q_id_of rfl) rfl (Nat.le_of_ble_eq_true rfl) (s_mono h (s_I_of (fun v2 u3 h => ?_)) (fun _ _ h9 => h9))
  show s_Ex (d + 1) 0 mX12_matched 9 [some (.ref (79))] [.int (v2)] u3 Q X
  exact s_retI .int (by decide +kernel) rfl rfl h
theorem eX12_matched {d : Nat}  {w : q_Sm} {Q : s_Po} {X : s_Xo} (h : vX12_matched_0 d  w Q X) : s_Ev (d + 1) 0 mX12_matched w [.ref (79)] Q X := s_of (by decide +kernel) rfl (Nat.le_of_ble_eq_true rfl) (xX12_matched_0 h)
def vX12_weds_0 (d : Nat) (x1 : Int32) (w : q_Sm) (Q : s_Po) (X : s_Xo) : Prop := ∀ w_1 : q_Sm, w_1 = q_wI w 79 0 0 → s_EvI d 0 mX12_isWedding_ w_1 [.ref (79), .int (x1), .int (1)] (fun v2 u3 => ((¬ v2 = 0) → s_EvI d 0 mX12_findWeddings u3 [.ref (79)] (fun v4 u5 => (vp_in x1 6) ∧ Q (some (.int (u5.1 110 (Int32.toNatClampNeg x1)))) u5) X) ∧ (¬ (¬ v2 = 0) → Q (some (.int (0))) u3)) X
theorem xX12_weds_0 {d : Nat} {x1 : Int32} {w : q_Sm} {Q : s_Po} {X : s_Xo} (h : vX12_weds_0 d x1 w Q X) : s_Ex (d + 1) 0 mX12_weds 0 [some (.ref (79)), some (.int (x1))] [] w Q X := by
  unfold vX12_weds_0 at h
  replace h := h _ rfl
  refine s_blk [(.aload_n 0, 1, 0, 0), (.iconst 0, 1, 0, 0), (.putfield 3, 3, 12, 0), (.aload_n 0, 1, 0, 0), (.iload_n 1, 1, 0, 0), (.iconst 1, 1, 0, 0)] 8 [some (.ref (79)), some (.int (x1))] [.int (1), .int (x1), .ref (79)] (q_wI w 79 0 0) [q_id 116 12 79] (by decide +kernel) (by refine qt_aload_n (r := 79) rfl ?_; refine qt_iconst qc_0 ?_; refine qt_putI rfl ?_; refine qt_aload_n (r := 79) rfl ?_; refine qt_iload_n (x := x1) rfl ?_; refine qt_iconst qc_1 ?_; exact qt_z rfl rfl rfl rfl rfl) (q_id_of rfl) ?_
  refine s_callV (a := 0) (a' := 0) (As := [.int (x1), .int (1)]) (id := 79) (st := []) kX12_isWedding_ l_12_457 (by decide +kernel) (q_id_of rfl) rfl (Nat.le_of_ble_eq_true rfl) (s_mono h (s_I_of (fun v2 u3 h => ?_)) (fun _ _ h9 => h9))
  show s_Ex (d + 1) 0 mX12_weds 11 [some (.ref (79)), some (.int (x1))] [.int (v2)] u3 Q X
  refine s_if (cd := .ne) (off := 5) 16 (by decide +kernel) (by decide) (fun hc => ?_) (fun hc => ?_)
  · replace h := h.1 hc
    refine s_blk [(.aload_n 0, 1, 0, 0)] 17 [some (.ref (79)), some (.int (x1))] [.ref (79)] u3 [] (by decide +kernel) (by refine qt_aload_n (r := 79) rfl ?_; exact qt_z rfl rfl rfl rfl rfl) trivial ?_
    refine s_callV (a := 0) (a' := 0) (As := []) (id := 79) (st := []) kX12_findWeddings l_12_454 (by decide +kernel) (q_id_of rfl) rfl (Nat.le_of_ble_eq_true rfl) (s_mono h (s_I_of (fun v4 u5 h => ?_)) (fun _ _ h9 => h9))
    show s_Ex (d + 1) 0 mX12_weds 20 [some (.ref (79)), some (.int (x1))] [.int (v4)] u5 Q X
    obtain ⟨ho6, h⟩ := h
    refine s_blk [(.pop, 1, 0, 0), (.aload_n 0, 1, 0, 0), (.getfield 107, 3, 12, 57), (.iload_n 1, 1, 0, 0), (.iaload, 1, 0, 0)] 27 [some (.ref (79)), some (.int (x1))] [.int (u5.1 110 (Int32.toNatClampNeg x1))] u5 [q_id 116 12 79, q_id 116 14 110, vp_in x1 6] (by decide +kernel) (by refine qt_pop ?_; refine qt_aload_n (r := 79) rfl ?_; refine qt_getR (r := 110) rfl rfl rfl ?_; refine qt_iload_n (x := x1) rfl ?_; refine qt_iald ?_; exact qt_z rfl rfl rfl rfl rfl) ⟨(q_id_of rfl), (q_id_of rfl), ho6⟩ ?_
    exact s_retI .int (by decide +kernel) rfl rfl h
  · replace h := h.2 hc
    refine s_blk [(.iconst 0, 1, 0, 0)] 15 [some (.ref (79)), some (.int (x1))] [.int (0)] u3 [] (by decide +kernel) (by refine qt_iconst qc_0 ?_; exact qt_z rfl rfl rfl rfl rfl) trivial ?_
    exact s_retI .int (by decide +kernel) rfl rfl h
theorem eX12_weds {d : Nat} {x1 : Int32} {w : q_Sm} {Q : s_Po} {X : s_Xo} (h : vX12_weds_0 d x1 w Q X) : s_Ev (d + 1) 0 mX12_weds w [.ref (79), .int (x1)] Q X := s_of (by decide +kernel) rfl (Nat.le_of_ble_eq_true rfl) (xX12_weds_0 h)
def vX12_choices_0 (d : Nat) (x1 : Int32) (w : q_Sm) (Q : s_Po) (X : s_Xo) : Prop := ∀ w_1 : q_Sm, w_1 = q_wI w 79 0 0 → s_EvI d 0 mX12_isWedding_ w_1 [.ref (79), .int (x1), .int (1)] (fun v2 u3 => ((¬ v2 = 0) → s_Ex (d + 1) 0 mX12_choices 20 [some (.ref (79)), some (.int (x1)), some (.int (0)), some (.int (0))] [] u3 Q X) ∧ (¬ (¬ v2 = 0) → Q (some (.int (0))) u3)) X
def vX12_choices_20 (d : Nat) (x1 : Int32) (x2 : Int32) (x3 : Int32) (w : q_Sm) (Q : s_Po) (X : s_Xo) : Prop := ((60 < x3) → Q (some (.int (x2))) w) ∧ (¬ (60 < x3) → s_EvI d 0 mX12_canWed w [.ref (79), .int (x1), .int (x3)] (fun v4 u5 => ((v4 = 0) → s_Ex (d + 1) 0 mX12_choices 20 [some (.ref (79)), some (.int (x1)), some (.int (x2 + 0)), some (.int (x3 + 1))] [] u5 Q X) ∧ (¬ (v4 = 0) → s_Ex (d + 1) 0 mX12_choices 20 [some (.ref (79)), some (.int (x1)), some (.int (x2 + 1)), some (.int (x3 + 1))] [] u5 Q X)) X)
theorem xX12_choices_0 {d : Nat} {x1 : Int32} {w : q_Sm} {Q : s_Po} {X : s_Xo} (h : vX12_choices_0 d x1 w Q X) : s_Ex (d + 1) 0 mX12_choices 0 [some (.ref (79)), some (.int (x1)), none, none] [] w Q X := by
  unfold vX12_choices_0 at h
  replace h := h _ rfl
  refine s_blk [(.aload_n 0, 1, 0, 0), (.iconst 0, 1, 0, 0), (.putfield 3, 3, 12, 0), (.aload_n 0, 1, 0, 0), (.iload_n 1, 1, 0, 0), (.iconst 1, 1, 0, 0)] 8 [some (.ref (79)), some (.int (x1)), none, none] [.int (1), .int (x1), .ref (79)] (q_wI w 79 0 0) [q_id 116 12 79] (by decide +kernel) (by refine qt_aload_n (r := 79) rfl ?_; refine qt_iconst qc_0 ?_; refine qt_putI rfl ?_; refine qt_aload_n (r := 79) rfl ?_; refine qt_iload_n (x := x1) rfl ?_; refine qt_iconst qc_1 ?_; exact qt_z rfl rfl rfl rfl rfl) (q_id_of rfl) ?_
  refine s_callV (a := 0) (a' := 0) (As := [.int (x1), .int (1)]) (id := 79) (st := []) kX12_isWedding_ l_12_457 (by decide +kernel) (q_id_of rfl) rfl (Nat.le_of_ble_eq_true rfl) (s_mono h (s_I_of (fun v2 u3 h => ?_)) (fun _ _ h9 => h9))
  show s_Ex (d + 1) 0 mX12_choices 11 [some (.ref (79)), some (.int (x1)), none, none] [.int (v2)] u3 Q X
  refine s_if (cd := .ne) (off := 5) 16 (by decide +kernel) (by decide) (fun hc => ?_) (fun hc => ?_)
  · replace h := h.1 hc
    refine s_blk [(.iconst 0, 1, 0, 0), (.istore_n 2, 1, 0, 0), (.iconst 0, 1, 0, 0), (.istore_n 3, 1, 0, 0)] 20 [some (.ref (79)), some (.int (x1)), some (.int (0)), some (.int (0))] [] u3 [] (by decide +kernel) (by refine qt_iconst qc_0 ?_; refine qt_istore_n (L' := [some (.ref (79)), some (.int (x1)), some (.int (0)), none]) rfl ?_; refine qt_iconst qc_0 ?_; refine qt_istore_n (L' := [some (.ref (79)), some (.int (x1)), some (.int (0)), some (.int (0))]) rfl ?_; exact qt_z rfl rfl rfl rfl rfl) trivial ?_
    exact h
  · replace h := h.2 hc
    refine s_blk [(.iconst 0, 1, 0, 0)] 15 [some (.ref (79)), some (.int (x1)), none, none] [.int (0)] u3 [] (by decide +kernel) (by refine qt_iconst qc_0 ?_; exact qt_z rfl rfl rfl rfl rfl) trivial ?_
    exact s_retI .int (by decide +kernel) rfl rfl h
theorem xX12_choices_20 {d : Nat} {x1 : Int32} {x2 : Int32} {x3 : Int32} {w : q_Sm} {Q : s_Po} {X : s_Xo} (h : vX12_choices_20 d x1 x2 x3 w Q X) : s_Ex (d + 1) 0 mX12_choices 20 [some (.ref (79)), some (.int (x1)), some (.int (x2)), some (.int (x3))] [] w Q X := by
  unfold vX12_choices_20 at h
  refine s_blk [(.iload_n 3, 1, 0, 0), (.bipush 60, 2, 0, 0)] 23 [some (.ref (79)), some (.int (x1)), some (.int (x2)), some (.int (x3))] [.int (60), .int (x3)] w [] (by decide +kernel) (by refine qt_iload_n (x := x3) rfl ?_; refine qt_bipush qb_60 ?_; exact qt_z rfl rfl rfl rfl rfl) trivial ?_
  refine s_icmp (cd := .gt) (off := 26) 49 (by decide +kernel) (by decide) (fun hc => ?_) (fun hc => ?_)
  · replace h := h.1 hc
    refine s_blk [(.iload_n 2, 1, 0, 0)] 50 [some (.ref (79)), some (.int (x1)), some (.int (x2)), some (.int (x3))] [.int (x2)] w [] (by decide +kernel) (by refine qt_iload_n (x := x2) rfl ?_; exact qt_z rfl rfl rfl rfl rfl) trivial ?_
    exact s_retI .int (by decide +kernel) rfl rfl h
  · replace h := h.2 hc
    refine s_blk [(.iload_n 2, 1, 0, 0), (.aload_n 0, 1, 0, 0), (.iload_n 1, 1, 0, 0), (.iload_n 3, 1, 0, 0)] 30 [some (.ref (79)), some (.int (x1)), some (.int (x2)), some (.int (x3))] [.int (x3), .int (x1), .ref (79), .int (x2)] w [] (by decide +kernel) (by refine qt_iload_n (x := x2) rfl ?_; refine qt_aload_n (r := 79) rfl ?_; refine qt_iload_n (x := x1) rfl ?_; refine qt_iload_n (x := x3) rfl ?_; exact qt_z rfl rfl rfl rfl rfl) trivial ?_
    refine s_callV (a := 0) (a' := 0) (As := [.int (x1), .int (x3)]) (id := 79) (st := [.int (x2)]) kX12_canWed l_12_442 (by decide +kernel) (q_id_of rfl) rfl (Nat.le_of_ble_eq_true rfl) (s_mono h (s_I_of (fun v4 u5 h => ?_)) (fun _ _ h9 => h9))
    show s_Ex (d + 1) 0 mX12_choices 33 [some (.ref (79)), some (.int (x1)), some (.int (x2)), some (.int (x3))] [.int (v4), .int (x2)] u5 Q X
    refine s_if (cd := .eq) (off := 7) 40 (by decide +kernel) (by decide) (fun hc => ?_) (fun hc => ?_)
    · replace h := h.1 hc
      refine s_blk [(.iconst 0, 1, 0, 0), (.iadd, 1, 0, 0), (.istore_n 2, 1, 0, 0), (.iinc 3 1, 3, 0, 0), (.goto (-26), 3, 20, 0)] 20 [some (.ref (79)), some (.int (x1)), some (.int (x2 + 0)), some (.int (x3 + 1))] [] u5 [] (by decide +kernel) (by refine qt_iconst qc_0 ?_; refine qt_iadd ?_; refine qt_istore_n (L' := [some (.ref (79)), some (.int (x1)), some (.int (x2 + 0)), some (.int (x3))]) rfl ?_; refine qt_iinc (x := x3) (L' := [some (.ref (79)), some (.int (x1)), some (.int (x2 + 0)), some (.int (x3 + 1))]) rfl qc_1 rfl ?_; refine qt_goto ?_; exact qt_z rfl rfl rfl rfl rfl) trivial ?_
      exact h
    · replace h := h.2 hc
      refine s_blk [(.iconst 1, 1, 0, 0), (.goto 4, 3, 41, 0), (.iadd, 1, 0, 0), (.istore_n 2, 1, 0, 0), (.iinc 3 1, 3, 0, 0), (.goto (-26), 3, 20, 0)] 20 [some (.ref (79)), some (.int (x1)), some (.int (x2 + 1)), some (.int (x3 + 1))] [] u5 [] (by decide +kernel) (by refine qt_iconst qc_1 ?_; refine qt_goto ?_; refine qt_iadd ?_; refine qt_istore_n (L' := [some (.ref (79)), some (.int (x1)), some (.int (x2 + 1)), some (.int (x3))]) rfl ?_; refine qt_iinc (x := x3) (L' := [some (.ref (79)), some (.int (x1)), some (.int (x2 + 1)), some (.int (x3 + 1))]) rfl qc_1 rfl ?_; refine qt_goto ?_; exact qt_z rfl rfl rfl rfl rfl) trivial ?_
      exact h
theorem eX12_choices {d : Nat} {x1 : Int32} {w : q_Sm} {Q : s_Po} {X : s_Xo} (h : vX12_choices_0 d x1 w Q X) : s_Ev (d + 1) 0 mX12_choices w [.ref (79), .int (x1)] Q X := s_of (by decide +kernel) rfl (Nat.le_of_ble_eq_true rfl) (xX12_choices_0 h)
def vX12_seesFrom_0 (d : Nat) (x1 : Int32) (x2 : Int32) (w : q_Sm) (Q : s_Po) (X : s_Xo) : Prop := (vp_in x1 20) ∧ s_Ex (d + 1) 0 mX12_seesFrom 12 [some (.ref (79)), some (.int (x1)), none, some (.int (x2 + (w.1 92 (Int32.toNatClampNeg x1)))), some (.int (0))] [] w Q X
def vX12_seesFrom_12 (d : Nat) (x1 : Int32) (x3 : Int32) (x4 : Int32) (w : q_Sm) (Q : s_Po) (X : s_Xo) : Prop := ((x1 ≤ x4) → Q (some (.int (1))) w) ∧ (¬ (x1 ≤ x4) → (vp_in x4 20) ∧ ((((w.1 92 (Int32.toNatClampNeg x4)) * (x1 + 1)) < (x3 * (x4 + 1))) → s_Ex (d + 1) 0 mX12_seesFrom 12 [some (.ref (79)), some (.int (x1)), none, some (.int (x3)), some (.int (x4 + 1))] [] w Q X) ∧ (¬ (((w.1 92 (Int32.toNatClampNeg x4)) * (x1 + 1)) < (x3 * (x4 + 1))) → Q (some (.int (0))) w))
theorem xX12_seesFrom_0 {d : Nat} {x1 : Int32} {x2 : Int32} {w : q_Sm} {Q : s_Po} {X : s_Xo} (h : vX12_seesFrom_0 d x1 x2 w Q X) : s_Ex (d + 1) 0 mX12_seesFrom 0 [some (.ref (79)), some (.int (x1)), some (.int (x2)), none, none] [] w Q X := by
  unfold vX12_seesFrom_0 at h
  obtain ⟨ho1, h⟩ := h
  refine s_blk [(.iload_n 2, 1, 0, 0), (.aload_n 0, 1, 0, 0), (.getfield 53, 3, 12, 20), (.iload_n 1, 1, 0, 0), (.iaload, 1, 0, 0), (.iadd, 1, 0, 0), (.istore_n 3, 1, 0, 0), (.iconst 0, 1, 0, 0), (.istore 4, 2, 0, 0), (.nop, 0, 2, 0)] 12 [some (.ref (79)), some (.int (x1)), none, some (.int (x2 + (w.1 92 (Int32.toNatClampNeg x1)))), some (.int (0))] [] w [q_id 116 12 79, q_id 116 14 92, vp_in x1 20] (by decide +kernel) (by refine qt_iload_n (x := x2) rfl ?_; refine qt_aload_n (r := 79) rfl ?_; refine qt_getR (r := 92) rfl rfl rfl ?_; refine qt_iload_n (x := x1) rfl ?_; refine qt_iald ?_; refine qt_iadd ?_; refine qt_istore_n (L' := [some (.ref (79)), some (.int (x1)), some (.int (x2)), some (.int (x2 + (w.1 92 (Int32.toNatClampNeg x1)))), none]) rfl ?_; refine qt_iconst qc_0 ?_; refine qt_istore (L' := [some (.ref (79)), some (.int (x1)), some (.int (x2)), some (.int (x2 + (w.1 92 (Int32.toNatClampNeg x1)))), some (.int (0))]) rfl ?_; refine qt_nop (L' := [some (.ref (79)), some (.int (x1)), none, some (.int (x2 + (w.1 92 (Int32.toNatClampNeg x1)))), some (.int (0))]) rfl ?_; exact qt_z rfl rfl rfl rfl rfl) ⟨(q_id_of rfl), (q_id_of rfl), ho1⟩ ?_
  exact h
theorem xX12_seesFrom_12 {d : Nat} {x1 : Int32} {x3 : Int32} {x4 : Int32} {w : q_Sm} {Q : s_Po} {X : s_Xo} (h : vX12_seesFrom_12 d x1 x3 x4 w Q X) : s_Ex (d + 1) 0 mX12_seesFrom 12 [some (.ref (79)), some (.int (x1)), none, some (.int (x3)), some (.int (x4))] [] w Q X := by
  unfold vX12_seesFrom_12 at h
  refine s_blk [(.iload 4, 2, 0, 0), (.iload_n 1, 1, 0, 0)] 15 [some (.ref (79)), some (.int (x1)), none, some (.int (x3)), some (.int (x4))] [.int (x1), .int (x4)] w [] (by decide +kernel) (by refine qt_iload (x := x4) rfl ?_; refine qt_iload_n (x := x1) rfl ?_; exact qt_z rfl rfl rfl rfl rfl) trivial ?_
  refine s_icmp (cd := .ge) (off := 31) 46 (by decide +kernel) (by decide) (fun hc => ?_) (fun hc => ?_)
  · replace h := h.1 hc
    refine s_blk [(.iconst 1, 1, 0, 0)] 47 [some (.ref (79)), some (.int (x1)), none, some (.int (x3)), some (.int (x4))] [.int (1)] w [] (by decide +kernel) (by refine qt_iconst qc_1 ?_; exact qt_z rfl rfl rfl rfl rfl) trivial ?_
    exact s_retI .boolean (by decide +kernel) rfl rfl h
  · replace h := h.2 hc
    obtain ⟨ho2, h⟩ := h
    refine s_blk [(.aload_n 0, 1, 0, 0), (.getfield 53, 3, 12, 20), (.iload 4, 2, 0, 0), (.iaload, 1, 0, 0), (.iload_n 1, 1, 0, 0), (.iconst 1, 1, 0, 0), (.iadd, 1, 0, 0), (.imul, 1, 0, 0), (.iload_n 3, 1, 0, 0), (.iload 4, 2, 0, 0), (.iconst 1, 1, 0, 0), (.iadd, 1, 0, 0), (.imul, 1, 0, 0)] 35 [some (.ref (79)), some (.int (x1)), none, some (.int (x3)), some (.int (x4))] [.int (x3 * (x4 + 1)), .int ((w.1 92 (Int32.toNatClampNeg x4)) * (x1 + 1))] w [q_id 116 12 79, q_id 116 14 92, vp_in x4 20] (by decide +kernel) (by refine qt_aload_n (r := 79) rfl ?_; refine qt_getR (r := 92) rfl rfl rfl ?_; refine qt_iload (x := x4) rfl ?_; refine qt_iald ?_; refine qt_iload_n (x := x1) rfl ?_; refine qt_iconst qc_1 ?_; refine qt_iadd ?_; refine qt_imul ?_; refine qt_iload_n (x := x3) rfl ?_; refine qt_iload (x := x4) rfl ?_; refine qt_iconst qc_1 ?_; refine qt_iadd ?_; refine qt_imul ?_; exact qt_z rfl rfl rfl rfl rfl) ⟨(q_id_of rfl), (q_id_of rfl), ho2⟩ ?_
    refine s_icmp (cd := .lt) (off := 5) 40 (by decide +kernel) (by decide) (fun hc => ?_) (fun hc => ?_)
    · replace h := h.1 hc
      refine s_blk [(.iinc 4 1, 3, 0, 0), (.goto (-31), 3, 12, 0)] 12 [some (.ref (79)), some (.int (x1)), none, some (.int (x3)), some (.int (x4 + 1))] [] w [] (by decide +kernel) (by refine qt_iinc (x := x4) (L' := [some (.ref (79)), some (.int (x1)), none, some (.int (x3)), some (.int (x4 + 1))]) rfl qc_1 rfl ?_; refine qt_goto ?_; exact qt_z rfl rfl rfl rfl rfl) trivial ?_
      exact h
    · replace h := h.2 hc
      refine s_blk [(.iconst 0, 1, 0, 0)] 39 [some (.ref (79)), some (.int (x1)), none, some (.int (x3)), some (.int (x4))] [.int (0)] w [] (by decide +kernel) (by refine qt_iconst qc_0 ?_; exact qt_z rfl rfl rfl rfl rfl) trivial ?_
      exact s_retI .boolean (by decide +kernel) rfl rfl h
theorem eX12_seesFrom {d : Nat} {x1 : Int32} {x2 : Int32} {w : q_Sm} {Q : s_Po} {X : s_Xo} (h : vX12_seesFrom_0 d x1 x2 w Q X) : s_Ev (d + 1) 0 mX12_seesFrom w [.ref (79), .int (x1), .int (x2)] Q X := s_of (by decide +kernel) rfl (Nat.le_of_ble_eq_true rfl) (xX12_seesFrom_0 h)
def vX12_sees_0 (d : Nat) (x1 : Int32) (w : q_Sm) (Q : s_Po) (X : s_Xo) : Prop := ∀ w_1 : q_Sm, w_1 = q_wI w 79 0 0 → s_EvI d 0 mX12_isCreditor_ w_1 [.ref (79), .int (x1), .int (1)] (fun v2 u3 => ((¬ v2 = 0) → (vp_in (2 * x1) 12) ∧ (vp_in ((2 * x1) + 1) 12) ∧ s_EvI d 0 mX12_seesFrom u3 [.ref (79), .int (u3.1 89 (Int32.toNatClampNeg (2 * x1))), .int (u3.1 89 (Int32.toNatClampNeg ((2 * x1) + 1)))] (fun v4 u5 => narrow .boolean (.int (v4)) = .int (v4) ∧ Q (some (.int (v4))) u5) X) ∧ (¬ (¬ v2 = 0) → Q (some (.int (0))) u3)) X
theorem xX12_sees_0 {d : Nat} {x1 : Int32} {w : q_Sm} {Q : s_Po} {X : s_Xo} (h : vX12_sees_0 d x1 w Q X) : s_Ex (d + 1) 0 mX12_sees 0 [some (.ref (79)), some (.int (x1))] [] w Q X := by
  unfold vX12_sees_0 at h
  replace h := h _ rfl
  refine s_blk [(.aload_n 0, 1, 0, 0), (.iconst 0, 1, 0, 0), (.putfield 3, 3, 12, 0), (.aload_n 0, 1, 0, 0), (.iload_n 1, 1, 0, 0), (.iconst 1, 1, 0, 0)] 8 [some (.ref (79)), some (.int (x1))] [.int (1), .int (x1), .ref (79)] (q_wI w 79 0 0) [q_id 116 12 79] (by decide +kernel) (by refine qt_aload_n (r := 79) rfl ?_; refine qt_iconst qc_0 ?_; refine qt_putI rfl ?_; refine qt_aload_n (r := 79) rfl ?_; refine qt_iload_n (x := x1) rfl ?_; refine qt_iconst qc_1 ?_; exact qt_z rfl rfl rfl rfl rfl) (q_id_of rfl) ?_
  refine s_callV (a := 0) (a' := 0) (As := [.int (x1), .int (1)]) (id := 79) (st := []) kX12_isCreditor_ l_12_419 (by decide +kernel) (q_id_of rfl) rfl (Nat.le_of_ble_eq_true rfl) (s_mono h (s_I_of (fun v2 u3 h => ?_)) (fun _ _ h9 => h9))
  show s_Ex (d + 1) 0 mX12_sees 11 [some (.ref (79)), some (.int (x1))] [.int (v2)] u3 Q X
  refine s_if (cd := .ne) (off := 5) 16 (by decide +kernel) (by decide) (fun hc => ?_) (fun hc => ?_)
  · replace h := h.1 hc
    obtain ⟨ho6, h⟩ := h
    obtain ⟨ho7, h⟩ := h
    refine s_blk [(.aload_n 0, 1, 0, 0), (.aload_n 0, 1, 0, 0), (.getfield 44, 3, 12, 17), (.iconst 2, 1, 0, 0), (.iload_n 1, 1, 0, 0), (.imul, 1, 0, 0), (.iaload, 1, 0, 0), (.aload_n 0, 1, 0, 0), (.getfield 44, 3, 12, 17), (.iconst 2, 1, 0, 0), (.iload_n 1, 1, 0, 0), (.imul, 1, 0, 0), (.iconst 1, 1, 0, 0), (.iadd, 1, 0, 0), (.iaload, 1, 0, 0)] 35 [some (.ref (79)), some (.int (x1))] [.int (u3.1 89 (Int32.toNatClampNeg ((2 * x1) + 1))), .int (u3.1 89 (Int32.toNatClampNeg (2 * x1))), .ref (79)] u3 [q_id 116 12 79, q_id 116 14 89, vp_in (2 * x1) 12, q_id 116 12 79, q_id 116 14 89, vp_in ((2 * x1) + 1) 12] (by decide +kernel) (by refine qt_aload_n (r := 79) rfl ?_; refine qt_aload_n (r := 79) rfl ?_; refine qt_getR (r := 89) rfl rfl rfl ?_; refine qt_iconst qc_2 ?_; refine qt_iload_n (x := x1) rfl ?_; refine qt_imul ?_; refine qt_iald ?_; refine qt_aload_n (r := 79) rfl ?_; refine qt_getR (r := 89) rfl rfl rfl ?_; refine qt_iconst qc_2 ?_; refine qt_iload_n (x := x1) rfl ?_; refine qt_imul ?_; refine qt_iconst qc_1 ?_; refine qt_iadd ?_; refine qt_iald ?_; exact qt_z rfl rfl rfl rfl rfl) ⟨(q_id_of rfl), (q_id_of rfl), ho6, (q_id_of rfl), (q_id_of rfl), ho7⟩ ?_
    refine s_callV (a := 0) (a' := 0) (As := [.int (u3.1 89 (Int32.toNatClampNeg (2 * x1))), .int (u3.1 89 (Int32.toNatClampNeg ((2 * x1) + 1)))]) (id := 79) (st := []) kX12_seesFrom l_12_459 (by decide +kernel) (q_id_of rfl) rfl (Nat.le_of_ble_eq_true rfl) (s_mono h (s_I_of (fun v4 u5 h => ?_)) (fun _ _ h9 => h9))
    show s_Ex (d + 1) 0 mX12_sees 38 [some (.ref (79)), some (.int (x1))] [.int (v4)] u5 Q X
    obtain ⟨hn, h⟩ := h
    exact s_retI .boolean (by decide +kernel) rfl hn h
  · replace h := h.2 hc
    refine s_blk [(.iconst 0, 1, 0, 0)] 15 [some (.ref (79)), some (.int (x1))] [.int (0)] u3 [] (by decide +kernel) (by refine qt_iconst qc_0 ?_; exact qt_z rfl rfl rfl rfl rfl) trivial ?_
    exact s_retI .boolean (by decide +kernel) rfl rfl h
theorem eX12_sees {d : Nat} {x1 : Int32} {w : q_Sm} {Q : s_Po} {X : s_Xo} (h : vX12_sees_0 d x1 w Q X) : s_Ev (d + 1) 0 mX12_sees w [.ref (79), .int (x1)] Q X := s_of (by decide +kernel) rfl (Nat.le_of_ble_eq_true rfl) (xX12_sees_0 h)
def vX12_eyes_0 (d : Nat) (x1 : Int32) (w : q_Sm) (Q : s_Po) (X : s_Xo) : Prop := ∀ w_1 : q_Sm, w_1 = q_wI w 79 0 0 → s_EvI d 0 mX12_within w_1 [.int (x1), .int (0), .int (19)] (fun v2 u3 => s_EvI d 0 mX12_may u3 [.ref (79), .int (v2), .int (1), .int (1)] (fun v4 u5 => ((¬ v4 = 0) → s_Ex (d + 1) 0 mX12_eyes 25 [some (.ref (79)), some (.int (x1)), some (.int (0))] [] u5 Q X) ∧ (¬ (¬ v4 = 0) → Q (some (.int (0))) u5)) X) X
def vX12_eyes_25 (d : Nat) (x1 : Int32) (x2 : Int32) (w : q_Sm) (Q : s_Po) (X : s_Xo) : Prop := ((99 < x2) → Q (some (.int (-1))) w) ∧ (¬ (99 < x2) → s_EvI d 0 mX12_seesFrom w [.ref (79), .int (x1), .int (x2)] (fun v6 u7 => ((v6 = 0) → s_Ex (d + 1) 0 mX12_eyes 25 [some (.ref (79)), some (.int (x1)), some (.int (x2 + 1))] [] u7 Q X) ∧ (¬ (v6 = 0) → Q (some (.int (x2))) u7)) X)
theorem xX12_eyes_0 {d : Nat} {x1 : Int32} {w : q_Sm} {Q : s_Po} {X : s_Xo} (h : vX12_eyes_0 d x1 w Q X) : s_Ex (d + 1) 0 mX12_eyes 0 [some (.ref (79)), some (.int (x1)), none] [] w Q X := by
  unfold vX12_eyes_0 at h
  replace h := h _ rfl
  refine s_blk [(.aload_n 0, 1, 0, 0), (.iconst 0, 1, 0, 0), (.putfield 3, 3, 12, 0), (.aload_n 0, 1, 0, 0), (.iload_n 1, 1, 0, 0), (.iconst 0, 1, 0, 0), (.bipush 19, 2, 0, 0)] 10 [some (.ref (79)), some (.int (x1)), none] [.int (19), .int (0), .int (x1), .ref (79)] (q_wI w 79 0 0) [q_id 116 12 79] (by decide +kernel) (by refine qt_aload_n (r := 79) rfl ?_; refine qt_iconst qc_0 ?_; refine qt_putI rfl ?_; refine qt_aload_n (r := 79) rfl ?_; refine qt_iload_n (x := x1) rfl ?_; refine qt_iconst qc_0 ?_; refine qt_bipush qb_19 ?_; exact qt_z rfl rfl rfl rfl rfl) (q_id_of rfl) ?_
  refine s_callS (a := 0) (a' := 0) (As := [.int (x1), .int (0), .int (19)]) (st := [.ref (79)]) kX12_within l_12_410 (by decide +kernel) rfl (Nat.le_of_ble_eq_true rfl) (s_mono h (s_I_of (fun v2 u3 h => ?_)) (fun _ _ h9 => h9))
  show s_Ex (d + 1) 0 mX12_eyes 13 [some (.ref (79)), some (.int (x1)), none] [.int (v2), .ref (79)] u3 Q X
  refine s_blk [(.iconst 1, 1, 0, 0), (.iconst 1, 1, 0, 0)] 15 [some (.ref (79)), some (.int (x1)), none] [.int (1), .int (1), .int (v2), .ref (79)] u3 [] (by decide +kernel) (by refine qt_iconst qc_1 ?_; refine qt_iconst qc_1 ?_; exact qt_z rfl rfl rfl rfl rfl) trivial ?_
  refine s_callV (a := 0) (a' := 0) (As := [.int (v2), .int (1), .int (1)]) (id := 79) (st := []) kX12_may l_12_270 (by decide +kernel) (q_id_of rfl) rfl (Nat.le_of_ble_eq_true rfl) (s_mono h (s_I_of (fun v4 u5 h => ?_)) (fun _ _ h9 => h9))
  show s_Ex (d + 1) 0 mX12_eyes 18 [some (.ref (79)), some (.int (x1)), none] [.int (v4)] u5 Q X
  refine s_if (cd := .ne) (off := 5) 23 (by decide +kernel) (by decide) (fun hc => ?_) (fun hc => ?_)
  · replace h := h.1 hc
    refine s_blk [(.iconst 0, 1, 0, 0), (.istore_n 2, 1, 0, 0)] 25 [some (.ref (79)), some (.int (x1)), some (.int (0))] [] u5 [] (by decide +kernel) (by refine qt_iconst qc_0 ?_; refine qt_istore_n (L' := [some (.ref (79)), some (.int (x1)), some (.int (0))]) rfl ?_; exact qt_z rfl rfl rfl rfl rfl) trivial ?_
    exact h
  · replace h := h.2 hc
    refine s_blk [(.iconst 0, 1, 0, 0)] 22 [some (.ref (79)), some (.int (x1)), none] [.int (0)] u5 [] (by decide +kernel) (by refine qt_iconst qc_0 ?_; exact qt_z rfl rfl rfl rfl rfl) trivial ?_
    exact s_retI .int (by decide +kernel) rfl rfl h
theorem xX12_eyes_25 {d : Nat} {x1 : Int32} {x2 : Int32} {w : q_Sm} {Q : s_Po} {X : s_Xo} (h : vX12_eyes_25 d x1 x2 w Q X) : s_Ex (d + 1) 0 mX12_eyes 25 [some (.ref (79)), some (.int (x1)), some (.int (x2))] [] w Q X := by
  unfold vX12_eyes_25 at h
  refine s_blk [(.iload_n 2, 1, 0, 0), (.bipush 99, 2, 0, 0)] 28 [some (.ref (79)), some (.int (x1)), some (.int (x2))] [.int (99), .int (x2)] w [] (by decide +kernel) (by refine qt_iload_n (x := x2) rfl ?_; refine qt_bipush qb_99 ?_; exact qt_z rfl rfl rfl rfl rfl) trivial ?_
  refine s_icmp (cd := .gt) (off := 20) 48 (by decide +kernel) (by decide) (fun hc => ?_) (fun hc => ?_)
  · replace h := h.1 hc
    refine s_blk [(.iconst (-1), 1, 0, 0)] 49 [some (.ref (79)), some (.int (x1)), some (.int (x2))] [.int (-1)] w [] (by decide +kernel) (by refine qt_iconst qc_m1 ?_; exact qt_z rfl rfl rfl rfl rfl) trivial ?_
    exact s_retI .int (by decide +kernel) rfl rfl h
  · replace h := h.2 hc
    refine s_blk [(.aload_n 0, 1, 0, 0), (.iload_n 1, 1, 0, 0), (.iload_n 2, 1, 0, 0)] 34 [some (.ref (79)), some (.int (x1)), some (.int (x2))] [.int (x2), .int (x1), .ref (79)] w [] (by decide +kernel) (by refine qt_aload_n (r := 79) rfl ?_; refine qt_iload_n (x := x1) rfl ?_; refine qt_iload_n (x := x2) rfl ?_; exact qt_z rfl rfl rfl rfl rfl) trivial ?_
    refine s_callV (a := 0) (a' := 0) (As := [.int (x1), .int (x2)]) (id := 79) (st := []) kX12_seesFrom l_12_459 (by decide +kernel) (q_id_of rfl) rfl (Nat.le_of_ble_eq_true rfl) (s_mono h (s_I_of (fun v6 u7 h => ?_)) (fun _ _ h9 => h9))
    show s_Ex (d + 1) 0 mX12_eyes 37 [some (.ref (79)), some (.int (x1)), some (.int (x2))] [.int (v6)] u7 Q X
    refine s_if (cd := .eq) (off := 5) 42 (by decide +kernel) (by decide) (fun hc => ?_) (fun hc => ?_)
    · replace h := h.1 hc
      refine s_blk [(.iinc 2 1, 3, 0, 0), (.goto (-20), 3, 25, 0)] 25 [some (.ref (79)), some (.int (x1)), some (.int (x2 + 1))] [] u7 [] (by decide +kernel) (by refine qt_iinc (x := x2) (L' := [some (.ref (79)), some (.int (x1)), some (.int (x2 + 1))]) rfl qc_1 rfl ?_; refine qt_goto ?_; exact qt_z rfl rfl rfl rfl rfl) trivial ?_
      exact h
    · replace h := h.2 hc
      refine s_blk [(.iload_n 2, 1, 0, 0)] 41 [some (.ref (79)), some (.int (x1)), some (.int (x2))] [.int (x2)] u7 [] (by decide +kernel) (by refine qt_iload_n (x := x2) rfl ?_; exact qt_z rfl rfl rfl rfl rfl) trivial ?_
      exact s_retI .int (by decide +kernel) rfl rfl h
theorem eX12_eyes {d : Nat} {x1 : Int32} {w : q_Sm} {Q : s_Po} {X : s_Xo} (h : vX12_eyes_0 d x1 w Q X) : s_Ev (d + 1) 0 mX12_eyes w [.ref (79), .int (x1)] Q X := s_of (by decide +kernel) rfl (Nat.le_of_ble_eq_true rfl) (xX12_eyes_0 h)
