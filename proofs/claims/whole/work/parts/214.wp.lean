def vX5_readProduct_0 (d : Nat) (o0 : Nat) (x2 : Int32) (w : q_Sm) (Q : s_Po) (X : s_Xo) : Prop := q_id 116 5 o0 ∧ s_EvV d 0 mX5_readUnit w [.ref (o0), .ref (2), .int (x2)] (fun u2 => s_Ex (d + 1) 0 mX5_readProduct 8 [some (.ref (o0)), some (.ref (2)), some (.int (x2)), some (.int (0))] [] u2 Q X) X
def vX5_readProduct_8 (d : Nat) (o0 : Nat) (x2 : Int32) (x3 : Int32) (w : q_Sm) (Q : s_Po) (X : s_Xo) : Prop := ((150 ≤ x3) → Q none w) ∧ (¬ (150 ≤ x3) → s_EvI d 0 mX10_failed w [.ref (2)] (fun v3 u4 => ((¬ v3 = 0) → Q none u4) ∧ (¬ (¬ v3 = 0) → s_EvI d 0 mX10_takes u4 [.ref (2), .int (42)] (fun v5 u6 => ((v5 = 0) → s_EvI d 0 mX10_takes u6 [.ref (2), .int (47)] (fun v7 u8 => ((v7 = 0) → Q none u8) ∧ (¬ (v7 = 0) → q_id 116 5 o0 ∧ s_EvV d 0 mX5_readUnit u8 [.ref (o0), .ref (2), .int (x2)] (fun u10 => q_id 116 5 o0 ∧ s_EvV d 0 mX5_emit u10 [.ref (o0), .int (-11)] (fun u12 => s_Ex (d + 1) 0 mX5_readProduct 8 [some (.ref (o0)), some (.ref (2)), some (.int (x2)), some (.int (x3 + 1))] [] u12 Q X) X) X)) X) ∧ (¬ (v5 = 0) → q_id 116 5 o0 ∧ s_EvV d 0 mX5_readUnit u6 [.ref (o0), .ref (2), .int (x2)] (fun u14 => q_id 116 5 o0 ∧ s_EvV d 0 mX5_emit u14 [.ref (o0), .int (-10)] (fun u16 => s_Ex (d + 1) 0 mX5_readProduct 8 [some (.ref (o0)), some (.ref (2)), some (.int (x2)), some (.int (x3 + 1))] [] u16 Q X) X) X)) X)) X)
theorem xX5_readProduct_0 {d : Nat} {o0 : Nat} {x2 : Int32} {w : q_Sm} {Q : s_Po} {X : s_Xo} (h : vX5_readProduct_0 d o0 x2 w Q X) : s_Ex (d + 1) 0 mX5_readProduct 0 [some (.ref (o0)), some (.ref (2)), some (.int (x2)), none] [] w Q X := by
  unfold vX5_readProduct_0 at h
  refine s_blk [(.aload_n 0, 1, 0, 0), (.aload_n 1, 1, 0, 0), (.iload_n 2, 1, 0, 0)] 3 [some (.ref (o0)), some (.ref (2)), some (.int (x2)), none] [.int (x2), .ref (2), .ref (o0)] w [] (by decide +kernel) (by refine qt_aload_n (r := o0) rfl ?_; refine qt_aload_n (r := 2) rfl ?_; refine qt_iload_n (x := x2) rfl ?_; exact qt_z rfl rfl rfl rfl rfl) trivial ?_
  obtain ⟨hid, h⟩ := h
  refine s_callV (a := 0) (a' := 0) (As := [.ref (2), .int (x2)]) (id := o0) (st := []) kX5_readUnit l_5_52 (by decide +kernel) hid rfl (Nat.le_of_ble_eq_true rfl) (s_mono h (s_V_of (fun u2 h => ?_)) (fun _ _ h9 => h9))
  show s_Ex (d + 1) 0 mX5_readProduct 6 [some (.ref (o0)), some (.ref (2)), some (.int (x2)), none] [] u2 Q X
  refine s_blk [(.iconst 0, 1, 0, 0), (.istore_n 3, 1, 0, 0)] 8 [some (.ref (o0)), some (.ref (2)), some (.int (x2)), some (.int (0))] [] u2 [] (by decide +kernel) (by refine qt_iconst qc_0 ?_; refine qt_istore_n (L' := [some (.ref (o0)), some (.ref (2)), some (.int (x2)), some (.int (0))]) rfl ?_; exact qt_z rfl rfl rfl rfl rfl) trivial ?_
  exact h
theorem xX5_readProduct_8 {d : Nat} {o0 : Nat} {x2 : Int32} {x3 : Int32} {w : q_Sm} {Q : s_Po} {X : s_Xo} (h : vX5_readProduct_8 d o0 x2 x3 w Q X) : s_Ex (d + 1) 0 mX5_readProduct 8 [some (.ref (o0)), some (.ref (2)), some (.int (x2)), some (.int (x3))] [] w Q X := by
  unfold vX5_readProduct_8 at h
  refine s_blk [(.iload_n 3, 1, 0, 0), (.sipush 150, 3, 0, 0)] 12 [some (.ref (o0)), some (.ref (2)), some (.int (x2)), some (.int (x3))] [.int (150), .int (x3)] w [] (by decide +kernel) (by refine qt_iload_n (x := x3) rfl ?_; refine qt_sipush qs_150 ?_; exact qt_z rfl rfl rfl rfl rfl) trivial ?_
  refine s_icmp (cd := .ge) (off := 65) 77 (by decide +kernel) (by decide) (fun hc => ?_) (fun hc => ?_)
  · replace h := h.1 hc
    exact s_retV (by decide +kernel) rfl h
  · replace h := h.2 hc
    refine s_blk [(.aload_n 1, 1, 0, 0)] 16 [some (.ref (o0)), some (.ref (2)), some (.int (x2)), some (.int (x3))] [.ref (2)] w [] (by decide +kernel) (by refine qt_aload_n (r := 2) rfl ?_; exact qt_z rfl rfl rfl rfl rfl) trivial ?_
    refine s_callV (a := 0) (a' := 0) (As := []) (id := 2) (st := []) kX10_failed l_5_44 (by decide +kernel) (q_id_of rfl) rfl (Nat.le_of_ble_eq_true rfl) (s_mono h (s_I_of (fun v3 u4 h => ?_)) (fun _ _ h9 => h9))
    show s_Ex (d + 1) 0 mX5_readProduct 19 [some (.ref (o0)), some (.ref (2)), some (.int (x2)), some (.int (x3))] [.int (v3)] u4 Q X
    refine s_if (cd := .ne) (off := 58) 77 (by decide +kernel) (by decide) (fun hc => ?_) (fun hc => ?_)
    · replace h := h.1 hc
      exact s_retV (by decide +kernel) rfl h
    · replace h := h.2 hc
      refine s_blk [(.aload_n 1, 1, 0, 0), (.bipush 42, 2, 0, 0)] 25 [some (.ref (o0)), some (.ref (2)), some (.int (x2)), some (.int (x3))] [.int (42), .ref (2)] u4 [] (by decide +kernel) (by refine qt_aload_n (r := 2) rfl ?_; refine qt_bipush qb_42 ?_; exact qt_z rfl rfl rfl rfl rfl) trivial ?_
      refine s_callV (a := 0) (a' := 0) (As := [.int (42)]) (id := 2) (st := []) kX10_takes l_5_48 (by decide +kernel) (q_id_of rfl) rfl (Nat.le_of_ble_eq_true rfl) (s_mono h (s_I_of (fun v5 u6 h => ?_)) (fun _ _ h9 => h9))
      show s_Ex (d + 1) 0 mX5_readProduct 28 [some (.ref (o0)), some (.ref (2)), some (.int (x2)), some (.int (x3))] [.int (v5)] u6 Q X
      refine s_if (cd := .eq) (off := 18) 46 (by decide +kernel) (by decide) (fun hc => ?_) (fun hc => ?_)
      · replace h := h.1 hc
        refine s_blk [(.aload_n 1, 1, 0, 0), (.bipush 47, 2, 0, 0)] 49 [some (.ref (o0)), some (.ref (2)), some (.int (x2)), some (.int (x3))] [.int (47), .ref (2)] u6 [] (by decide +kernel) (by refine qt_aload_n (r := 2) rfl ?_; refine qt_bipush qb_47 ?_; exact qt_z rfl rfl rfl rfl rfl) trivial ?_
        refine s_callV (a := 0) (a' := 0) (As := [.int (47)]) (id := 2) (st := []) kX10_takes l_5_48 (by decide +kernel) (q_id_of rfl) rfl (Nat.le_of_ble_eq_true rfl) (s_mono h (s_I_of (fun v7 u8 h => ?_)) (fun _ _ h9 => h9))
        show s_Ex (d + 1) 0 mX5_readProduct 52 [some (.ref (o0)), some (.ref (2)), some (.int (x2)), some (.int (x3))] [.int (v7)] u8 Q X
        refine s_if (cd := .eq) (off := 18) 70 (by decide +kernel) (by decide) (fun hc => ?_) (fun hc => ?_)
        · replace h := h.1 hc
          exact s_retV (by decide +kernel) rfl h
        · replace h := h.2 hc
          refine s_blk [(.aload_n 0, 1, 0, 0), (.aload_n 1, 1, 0, 0), (.iload_n 2, 1, 0, 0)] 58 [some (.ref (o0)), some (.ref (2)), some (.int (x2)), some (.int (x3))] [.int (x2), .ref (2), .ref (o0)] u8 [] (by decide +kernel) (by refine qt_aload_n (r := o0) rfl ?_; refine qt_aload_n (r := 2) rfl ?_; refine qt_iload_n (x := x2) rfl ?_; exact qt_z rfl rfl rfl rfl rfl) trivial ?_
          obtain ⟨hid, h⟩ := h
          refine s_callV (a := 0) (a' := 0) (As := [.ref (2), .int (x2)]) (id := o0) (st := []) kX5_readUnit l_5_52 (by decide +kernel) hid rfl (Nat.le_of_ble_eq_true rfl) (s_mono h (s_V_of (fun u10 h => ?_)) (fun _ _ h9 => h9))
          show s_Ex (d + 1) 0 mX5_readProduct 61 [some (.ref (o0)), some (.ref (2)), some (.int (x2)), some (.int (x3))] [] u10 Q X
          refine s_blk [(.aload_n 0, 1, 0, 0), (.bipush (-11), 2, 0, 0)] 64 [some (.ref (o0)), some (.ref (2)), some (.int (x2)), some (.int (x3))] [.int (-11), .ref (o0)] u10 [] (by decide +kernel) (by refine qt_aload_n (r := o0) rfl ?_; refine qt_bipush qb_m11 ?_; exact qt_z rfl rfl rfl rfl rfl) trivial ?_
          obtain ⟨hid, h⟩ := h
          refine s_callV (a := 0) (a' := 0) (As := [.int (-11)]) (id := o0) (st := []) kX5_emit l_5_28 (by decide +kernel) hid rfl (Nat.le_of_ble_eq_true rfl) (s_mono h (s_V_of (fun u12 h => ?_)) (fun _ _ h9 => h9))
          show s_Ex (d + 1) 0 mX5_readProduct 67 [some (.ref (o0)), some (.ref (2)), some (.int (x2)), some (.int (x3))] [] u12 Q X
          refine s_blk [(.goto 4, 3, 71, 0), (.iinc 3 1, 3, 0, 0), (.goto (-66), 3, 8, 0)] 8 [some (.ref (o0)), some (.ref (2)), some (.int (x2)), some (.int (x3 + 1))] [] u12 [] (by decide +kernel) (by refine qt_goto ?_; refine qt_iinc (x := x3) (L' := [some (.ref (o0)), some (.ref (2)), some (.int (x2)), some (.int (x3 + 1))]) rfl qc_1 rfl ?_; refine qt_goto ?_; exact qt_z rfl rfl rfl rfl rfl) trivial ?_
          exact h
      · replace h := h.2 hc
        refine s_blk [(.aload_n 0, 1, 0, 0), (.aload_n 1, 1, 0, 0), (.iload_n 2, 1, 0, 0)] 34 [some (.ref (o0)), some (.ref (2)), some (.int (x2)), some (.int (x3))] [.int (x2), .ref (2), .ref (o0)] u6 [] (by decide +kernel) (by refine qt_aload_n (r := o0) rfl ?_; refine qt_aload_n (r := 2) rfl ?_; refine qt_iload_n (x := x2) rfl ?_; exact qt_z rfl rfl rfl rfl rfl) trivial ?_
        obtain ⟨hid, h⟩ := h
        refine s_callV (a := 0) (a' := 0) (As := [.ref (2), .int (x2)]) (id := o0) (st := []) kX5_readUnit l_5_52 (by decide +kernel) hid rfl (Nat.le_of_ble_eq_true rfl) (s_mono h (s_V_of (fun u14 h => ?_)) (fun _ _ h9 => h9))
        show s_Ex (d + 1) 0 mX5_readProduct 37 [some (.ref (o0)), some (.ref (2)), some (.int (x2)), some (.int (x3))] [] u14 Q X
        refine s_blk [(.aload_n 0, 1, 0, 0), (.bipush (-10), 2, 0, 0)] 40 [some (.ref (o0)), some (.ref (2)), some (.int (x2)), some (.int (x3))] [.int (-10), .ref (o0)] u14 [] (by decide +kernel) (by refine qt_aload_n (r := o0) rfl ?_; refine qt_bipush qb_m10 ?_; exact qt_z rfl rfl rfl rfl rfl) trivial ?_
        obtain ⟨hid, h⟩ := h
        refine s_callV (a := 0) (a' := 0) (As := [.int (-10)]) (id := o0) (st := []) kX5_emit l_5_28 (by decide +kernel) hid rfl (Nat.le_of_ble_eq_true rfl) (s_mono h (s_V_of (fun u16 h => ?_)) (fun _ _ h9 => h9))
        show s_Ex (d + 1) 0 mX5_readProduct 43 [some (.ref (o0)), some (.ref (2)), some (.int (x2)), some (.int (x3))] [] u16 Q X
        refine s_blk [(.goto 28, 3, 71, 0), (.iinc 3 1, 3, 0, 0), (.goto (-66), 3, 8, 0)] 8 [some (.ref (o0)), some (.ref (2)), some (.int (x2)), some (.int (x3 + 1))] [] u16 [] (by decide +kernel) (by refine qt_goto ?_; refine qt_iinc (x := x3) (L' := [some (.ref (o0)), some (.ref (2)), some (.int (x2)), some (.int (x3 + 1))]) rfl qc_1 rfl ?_; refine qt_goto ?_; exact qt_z rfl rfl rfl rfl rfl) trivial ?_
        exact h
theorem eX5_readProduct {d : Nat} {o0 : Nat} {x2 : Int32} {w : q_Sm} {Q : s_Po} {X : s_Xo} (h : vX5_readProduct_0 d o0 x2 w Q X) : s_Ev (d + 1) 0 mX5_readProduct w [.ref (o0), .ref (2), .int (x2)] Q X := s_of (by decide +kernel) rfl (Nat.le_of_ble_eq_true rfl) (xX5_readProduct_0 h)
def vX5_readUnit_0 (d : Nat) (o0 : Nat) (x2 : Int32) (w : q_Sm) (Q : s_Po) (X : s_Xo) : Prop := s_EvI d 0 mX10_isAtDigit w [.ref (2)] (fun v1 u2 => ((v1 = 0) → s_EvI d 0 mX10_takes u2 [.ref (2), .int (40)] (fun v3 u4 => ((v3 = 0) → s_EvV d 0 mX10_word u4 [.ref (2)] (fun u6 => s_EvI d 0 mX10_was u6 [.ref (2), .retAddr (12)] (fun v7 u8 => ((v7 = 0) → s_EvI d 0 mX10_was u8 [.ref (2), .retAddr (13)] (fun v9 u10 => ((v9 = 0) → q_id 116 5 o0 ∧ s_EvV d 0 mX5_readName u10 [.ref (o0), .ref (2)] (fun u12 => Q none u12) X) ∧ (¬ (v9 = 0) → q_id 116 5 o0 ∧ s_EvV d 0 mX5_readPair u10 [.ref (o0), .ref (2), .int (x2), .int (-13)] (fun u14 => Q none u14) X)) X) ∧ (¬ (v7 = 0) → q_id 116 5 o0 ∧ s_EvV d 0 mX5_readPair u8 [.ref (o0), .ref (2), .int (x2), .int (-12)] (fun u16 => Q none u16) X)) X) X) ∧ (¬ (v3 = 0) → s_EvI d 0 mX5_mayOpen u4 [.ref (2), .int (x2)] (fun v17 u18 => ((v17 = 0) → Q none u18) ∧ (¬ (v17 = 0) → q_id 116 5 o0 ∧ s_EvV d 0 mX5_readSum u18 [.ref (o0), .ref (2), .int (x2 + 1)] (fun u20 => s_EvV d 0 mX10_need u20 [.ref (2), .int (41)] (fun u22 => Q none u22) X) X)) X)) X) ∧ (¬ (v1 = 0) → s_EvI d 0 mX10_number u2 [.ref (2), .int (0), .int (999)] (fun v23 u24 => q_id 116 5 o0 ∧ s_EvV d 0 mX5_emit u24 [.ref (o0), .int (v23)] (fun u26 => Q none u26) X) X)) X
theorem xX5_readUnit_0 {d : Nat} {o0 : Nat} {x2 : Int32} {w : q_Sm} {Q : s_Po} {X : s_Xo} (h : vX5_readUnit_0 d o0 x2 w Q X) : s_Ex (d + 1) 0 mX5_readUnit 0 [some (.ref (o0)), some (.ref (2)), some (.int (x2))] [] w Q X := by
  unfold vX5_readUnit_0 at h
  refine s_blk [(.aload_n 1, 1, 0, 0)] 1 [some (.ref (o0)), some (.ref (2)), some (.int (x2))] [.ref (2)] w [] (by decide +kernel) (by refine qt_aload_n (r := 2) rfl ?_; exact qt_z rfl rfl rfl rfl rfl) trivial ?_
  refine s_callV (a := 0) (a' := 0) (As := []) (id := 2) (st := []) kX10_isAtDigit l_5_55 (by decide +kernel) (q_id_of rfl) rfl (Nat.le_of_ble_eq_true rfl) (s_mono h (s_I_of (fun v1 u2 h => ?_)) (fun _ _ h9 => h9))
  show s_Ex (d + 1) 0 mX5_readUnit 4 [some (.ref (o0)), some (.ref (2)), some (.int (x2))] [.int (v1)] u2 Q X
  refine s_if (cd := .eq) (off := 16) 20 (by decide +kernel) (by decide) (fun hc => ?_) (fun hc => ?_)
  · replace h := h.1 hc
    refine s_blk [(.aload_n 1, 1, 0, 0), (.bipush 40, 2, 0, 0)] 23 [some (.ref (o0)), some (.ref (2)), some (.int (x2))] [.int (40), .ref (2)] u2 [] (by decide +kernel) (by refine qt_aload_n (r := 2) rfl ?_; refine qt_bipush qb_40 ?_; exact qt_z rfl rfl rfl rfl rfl) trivial ?_
    refine s_callV (a := 0) (a' := 0) (As := [.int (40)]) (id := 2) (st := []) kX10_takes l_5_48 (by decide +kernel) (q_id_of rfl) rfl (Nat.le_of_ble_eq_true rfl) (s_mono h (s_I_of (fun v3 u4 h => ?_)) (fun _ _ h9 => h9))
    show s_Ex (d + 1) 0 mX5_readUnit 26 [some (.ref (o0)), some (.ref (2)), some (.int (x2))] [.int (v3)] u4 Q X
    refine s_if (cd := .eq) (off := 26) 52 (by decide +kernel) (by decide) (fun hc => ?_) (fun hc => ?_)
    · replace h := h.1 hc
      refine s_blk [(.aload_n 1, 1, 0, 0)] 53 [some (.ref (o0)), some (.ref (2)), some (.int (x2))] [.ref (2)] u4 [] (by decide +kernel) (by refine qt_aload_n (r := 2) rfl ?_; exact qt_z rfl rfl rfl rfl rfl) trivial ?_
      refine s_callV (a := 0) (a' := 0) (As := []) (id := 2) (st := []) kX10_word l_5_70 (by decide +kernel) (q_id_of rfl) rfl (Nat.le_of_ble_eq_true rfl) (s_mono h (s_V_of (fun u6 h => ?_)) (fun _ _ h9 => h9))
      show s_Ex (d + 1) 0 mX5_readUnit 56 [some (.ref (o0)), some (.ref (2)), some (.int (x2))] [] u6 Q X
      refine s_blk [(.aload_n 1, 1, 0, 0), (.ldc 73, 2, 1, 12)] 59 [some (.ref (o0)), some (.ref (2)), some (.int (x2))] [.retAddr (12), .ref (2)] u6 [] (by decide +kernel) (by refine qt_aload_n (r := 2) rfl ?_; refine qt_ldcS ?_; exact qt_z rfl rfl rfl rfl rfl) trivial ?_
      refine s_callV (a := 0) (a' := 0) (As := [.retAddr (12)]) (id := 2) (st := []) kX10_was l_5_75 (by decide +kernel) (q_id_of rfl) rfl (Nat.le_of_ble_eq_true rfl) (s_mono h (s_I_of (fun v7 u8 h => ?_)) (fun _ _ h9 => h9))
      show s_Ex (d + 1) 0 mX5_readUnit 62 [some (.ref (o0)), some (.ref (2)), some (.int (x2))] [.int (v7)] u8 Q X
      refine s_if (cd := .eq) (off := 14) 76 (by decide +kernel) (by decide) (fun hc => ?_) (fun hc => ?_)
      · replace h := h.1 hc
        refine s_blk [(.aload_n 1, 1, 0, 0), (.ldc 83, 2, 1, 13)] 79 [some (.ref (o0)), some (.ref (2)), some (.int (x2))] [.retAddr (13), .ref (2)] u8 [] (by decide +kernel) (by refine qt_aload_n (r := 2) rfl ?_; refine qt_ldcS ?_; exact qt_z rfl rfl rfl rfl rfl) trivial ?_
        refine s_callV (a := 0) (a' := 0) (As := [.retAddr (13)]) (id := 2) (st := []) kX10_was l_5_75 (by decide +kernel) (q_id_of rfl) rfl (Nat.le_of_ble_eq_true rfl) (s_mono h (s_I_of (fun v9 u10 h => ?_)) (fun _ _ h9 => h9))
        show s_Ex (d + 1) 0 mX5_readUnit 82 [some (.ref (o0)), some (.ref (2)), some (.int (x2))] [.int (v9)] u10 Q X
        refine s_if (cd := .eq) (off := 14) 96 (by decide +kernel) (by decide) (fun hc => ?_) (fun hc => ?_)
        · replace h := h.1 hc
          refine s_blk [(.aload_n 0, 1, 0, 0), (.aload_n 1, 1, 0, 0)] 98 [some (.ref (o0)), some (.ref (2)), some (.int (x2))] [.ref (2), .ref (o0)] u10 [] (by decide +kernel) (by refine qt_aload_n (r := o0) rfl ?_; refine qt_aload_n (r := 2) rfl ?_; exact qt_z rfl rfl rfl rfl rfl) trivial ?_
          obtain ⟨hid, h⟩ := h
          refine s_callV (a := 0) (a' := 0) (As := [.ref (2)]) (id := o0) (st := []) kX5_readName l_5_85 (by decide +kernel) hid rfl (Nat.le_of_ble_eq_true rfl) (s_mono h (s_V_of (fun u12 h => ?_)) (fun _ _ h9 => h9))
          show s_Ex (d + 1) 0 mX5_readUnit 101 [some (.ref (o0)), some (.ref (2)), some (.int (x2))] [] u12 Q X
          exact s_retV (by decide +kernel) rfl h
        · replace h := h.2 hc
          refine s_blk [(.aload_n 0, 1, 0, 0), (.aload_n 1, 1, 0, 0), (.iload_n 2, 1, 0, 0), (.bipush (-13), 2, 0, 0)] 90 [some (.ref (o0)), some (.ref (2)), some (.int (x2))] [.int (-13), .int (x2), .ref (2), .ref (o0)] u10 [] (by decide +kernel) (by refine qt_aload_n (r := o0) rfl ?_; refine qt_aload_n (r := 2) rfl ?_; refine qt_iload_n (x := x2) rfl ?_; refine qt_bipush qb_m13 ?_; exact qt_z rfl rfl rfl rfl rfl) trivial ?_
          obtain ⟨hid, h⟩ := h
          refine s_callV (a := 0) (a' := 0) (As := [.ref (2), .int (x2), .int (-13)]) (id := o0) (st := []) kX5_readPair l_5_79 (by decide +kernel) hid rfl (Nat.le_of_ble_eq_true rfl) (s_mono h (s_V_of (fun u14 h => ?_)) (fun _ _ h9 => h9))
          show s_Ex (d + 1) 0 mX5_readUnit 93 [some (.ref (o0)), some (.ref (2)), some (.int (x2))] [] u14 Q X
          refine s_blk [(.goto 8, 3, 101, 0)] 101 [some (.ref (o0)), some (.ref (2)), some (.int (x2))] [] u14 [] (by decide +kernel) (by refine qt_goto ?_; exact qt_z rfl rfl rfl rfl rfl) trivial ?_
          exact s_retV (by decide +kernel) rfl h
      · replace h := h.2 hc
        refine s_blk [(.aload_n 0, 1, 0, 0), (.aload_n 1, 1, 0, 0), (.iload_n 2, 1, 0, 0), (.bipush (-12), 2, 0, 0)] 70 [some (.ref (o0)), some (.ref (2)), some (.int (x2))] [.int (-12), .int (x2), .ref (2), .ref (o0)] u8 [] (by decide +kernel) (by refine qt_aload_n (r := o0) rfl ?_; refine qt_aload_n (r := 2) rfl ?_; refine qt_iload_n (x := x2) rfl ?_; refine qt_bipush qb_m12 ?_; exact qt_z rfl rfl rfl rfl rfl) trivial ?_
        obtain ⟨hid, h⟩ := h
        refine s_callV (a := 0) (a' := 0) (As := [.ref (2), .int (x2), .int (-12)]) (id := o0) (st := []) kX5_readPair l_5_79 (by decide +kernel) hid rfl (Nat.le_of_ble_eq_true rfl) (s_mono h (s_V_of (fun u16 h => ?_)) (fun _ _ h9 => h9))
        show s_Ex (d + 1) 0 mX5_readUnit 73 [some (.ref (o0)), some (.ref (2)), some (.int (x2))] [] u16 Q X
        refine s_blk [(.goto 28, 3, 101, 0)] 101 [some (.ref (o0)), some (.ref (2)), some (.int (x2))] [] u16 [] (by decide +kernel) (by refine qt_goto ?_; exact qt_z rfl rfl rfl rfl rfl) trivial ?_
        exact s_retV (by decide +kernel) rfl h
    · replace h := h.2 hc
      refine s_blk [(.aload_n 1, 1, 0, 0), (.iload_n 2, 1, 0, 0)] 31 [some (.ref (o0)), some (.ref (2)), some (.int (x2))] [.int (x2), .ref (2)] u4 [] (by decide +kernel) (by refine qt_aload_n (r := 2) rfl ?_; refine qt_iload_n (x := x2) rfl ?_; exact qt_z rfl rfl rfl rfl rfl) trivial ?_
      refine s_callS (a := 0) (a' := 0) (As := [.ref (2), .int (x2)]) (st := []) kX5_mayOpen l_5_62 (by decide +kernel) rfl (Nat.le_of_ble_eq_true rfl) (s_mono h (s_I_of (fun v17 u18 h => ?_)) (fun _ _ h9 => h9))
      show s_Ex (d + 1) 0 mX5_readUnit 34 [some (.ref (o0)), some (.ref (2)), some (.int (x2))] [.int (v17)] u18 Q X
      refine s_if (cd := .eq) (off := 17) 51 (by decide +kernel) (by decide) (fun hc => ?_) (fun hc => ?_)
      · replace h := h.1 hc
        exact s_retV (by decide +kernel) rfl h
      · replace h := h.2 hc
        refine s_blk [(.aload_n 0, 1, 0, 0), (.aload_n 1, 1, 0, 0), (.iload_n 2, 1, 0, 0), (.iconst 1, 1, 0, 0), (.iadd, 1, 0, 0)] 42 [some (.ref (o0)), some (.ref (2)), some (.int (x2))] [.int (x2 + 1), .ref (2), .ref (o0)] u18 [] (by decide +kernel) (by refine qt_aload_n (r := o0) rfl ?_; refine qt_aload_n (r := 2) rfl ?_; refine qt_iload_n (x := x2) rfl ?_; refine qt_iconst qc_1 ?_; refine qt_iadd ?_; exact qt_z rfl rfl rfl rfl rfl) trivial ?_
        obtain ⟨hid, h⟩ := h
        refine s_callV (a := 0) (a' := 0) (As := [.ref (2), .int (x2 + 1)]) (id := o0) (st := []) kX5_readSum l_5_32 (by decide +kernel) hid rfl (Nat.le_of_ble_eq_true rfl) (s_mono h (s_V_of (fun u20 h => ?_)) (fun _ _ h9 => h9))
        show s_Ex (d + 1) 0 mX5_readUnit 45 [some (.ref (o0)), some (.ref (2)), some (.int (x2))] [] u20 Q X
        refine s_blk [(.aload_n 1, 1, 0, 0), (.bipush 41, 2, 0, 0)] 48 [some (.ref (o0)), some (.ref (2)), some (.int (x2))] [.int (41), .ref (2)] u20 [] (by decide +kernel) (by refine qt_aload_n (r := 2) rfl ?_; refine qt_bipush qb_41 ?_; exact qt_z rfl rfl rfl rfl rfl) trivial ?_
        refine s_callV (a := 0) (a' := 0) (As := [.int (41)]) (id := 2) (st := []) kX10_need l_5_66 (by decide +kernel) (q_id_of rfl) rfl (Nat.le_of_ble_eq_true rfl) (s_mono h (s_V_of (fun u22 h => ?_)) (fun _ _ h9 => h9))
        show s_Ex (d + 1) 0 mX5_readUnit 51 [some (.ref (o0)), some (.ref (2)), some (.int (x2))] [] u22 Q X
        exact s_retV (by decide +kernel) rfl h
  · replace h := h.2 hc
    refine s_blk [(.aload_n 0, 1, 0, 0), (.aload_n 1, 1, 0, 0), (.iconst 0, 1, 0, 0), (.sipush 999, 3, 0, 0)] 13 [some (.ref (o0)), some (.ref (2)), some (.int (x2))] [.int (999), .int (0), .ref (2), .ref (o0)] u2 [] (by decide +kernel) (by refine qt_aload_n (r := o0) rfl ?_; refine qt_aload_n (r := 2) rfl ?_; refine qt_iconst qc_0 ?_; refine qt_sipush qs_999 ?_; exact qt_z rfl rfl rfl rfl rfl) trivial ?_
    refine s_callV (a := 0) (a' := 0) (As := [.int (0), .int (999)]) (id := 2) (st := [.ref (o0)]) kX10_number l_5_58 (by decide +kernel) (q_id_of rfl) rfl (Nat.le_of_ble_eq_true rfl) (s_mono h (s_I_of (fun v23 u24 h => ?_)) (fun _ _ h9 => h9))
    show s_Ex (d + 1) 0 mX5_readUnit 16 [some (.ref (o0)), some (.ref (2)), some (.int (x2))] [.int (v23), .ref (o0)] u24 Q X
    obtain ⟨hid, h⟩ := h
    refine s_callV (a := 0) (a' := 0) (As := [.int (v23)]) (id := o0) (st := []) kX5_emit l_5_28 (by decide +kernel) hid rfl (Nat.le_of_ble_eq_true rfl) (s_mono h (s_V_of (fun u26 h => ?_)) (fun _ _ h9 => h9))
    show s_Ex (d + 1) 0 mX5_readUnit 19 [some (.ref (o0)), some (.ref (2)), some (.int (x2))] [] u26 Q X
    exact s_retV (by decide +kernel) rfl h
theorem eX5_readUnit {d : Nat} {o0 : Nat} {x2 : Int32} {w : q_Sm} {Q : s_Po} {X : s_Xo} (h : vX5_readUnit_0 d o0 x2 w Q X) : s_Ev (d + 1) 0 mX5_readUnit w [.ref (o0), .ref (2), .int (x2)] Q X := s_of (by decide +kernel) rfl (Nat.le_of_ble_eq_true rfl) (xX5_readUnit_0 h)
def vX5_readPair_0 (d : Nat) (o0 : Nat) (x2 : Int32) (x3 : Int32) (w : q_Sm) (Q : s_Po) (X : s_Xo) : Prop := s_EvI d 0 mX5_mayOpen w [.ref (2), .int (x2)] (fun v1 u2 => ((v1 = 0) → Q none u2) ∧ (¬ (v1 = 0) → s_EvV d 0 mX10_need u2 [.ref (2), .int (91)] (fun u4 => q_id 116 5 o0 ∧ s_EvV d 0 mX5_readSum u4 [.ref (o0), .ref (2), .int (x2 + 1)] (fun u6 => s_EvV d 0 mX10_need u6 [.ref (2), .int (44)] (fun u8 => q_id 116 5 o0 ∧ s_EvV d 0 mX5_readSum u8 [.ref (o0), .ref (2), .int (x2 + 1)] (fun u10 => s_EvV d 0 mX10_need u10 [.ref (2), .int (93)] (fun u12 => q_id 116 5 o0 ∧ s_EvV d 0 mX5_emit u12 [.ref (o0), .int (x3)] (fun u14 => Q none u14) X) X) X) X) X) X)) X
theorem xX5_readPair_0 {d : Nat} {o0 : Nat} {x2 : Int32} {x3 : Int32} {w : q_Sm} {Q : s_Po} {X : s_Xo} (h : vX5_readPair_0 d o0 x2 x3 w Q X) : s_Ex (d + 1) 0 mX5_readPair 0 [some (.ref (o0)), some (.ref (2)), some (.int (x2)), some (.int (x3))] [] w Q X := by
  unfold vX5_readPair_0 at h
  refine s_blk [(.aload_n 1, 1, 0, 0), (.iload_n 2, 1, 0, 0)] 2 [some (.ref (o0)), some (.ref (2)), some (.int (x2)), some (.int (x3))] [.int (x2), .ref (2)] w [] (by decide +kernel) (by refine qt_aload_n (r := 2) rfl ?_; refine qt_iload_n (x := x2) rfl ?_; exact qt_z rfl rfl rfl rfl rfl) trivial ?_
  refine s_callS (a := 0) (a' := 0) (As := [.ref (2), .int (x2)]) (st := []) kX5_mayOpen l_5_62 (by decide +kernel) rfl (Nat.le_of_ble_eq_true rfl) (s_mono h (s_I_of (fun v1 u2 h => ?_)) (fun _ _ h9 => h9))
  show s_Ex (d + 1) 0 mX5_readPair 5 [some (.ref (o0)), some (.ref (2)), some (.int (x2)), some (.int (x3))] [.int (v1)] u2 Q X
  refine s_if (cd := .eq) (off := 42) 47 (by decide +kernel) (by decide) (fun hc => ?_) (fun hc => ?_)
  · replace h := h.1 hc
    exact s_retV (by decide +kernel) rfl h
  · replace h := h.2 hc
    refine s_blk [(.aload_n 1, 1, 0, 0), (.bipush 91, 2, 0, 0)] 11 [some (.ref (o0)), some (.ref (2)), some (.int (x2)), some (.int (x3))] [.int (91), .ref (2)] u2 [] (by decide +kernel) (by refine qt_aload_n (r := 2) rfl ?_; refine qt_bipush qb_91 ?_; exact qt_z rfl rfl rfl rfl rfl) trivial ?_
    refine s_callV (a := 0) (a' := 0) (As := [.int (91)]) (id := 2) (st := []) kX10_need l_5_66 (by decide +kernel) (q_id_of rfl) rfl (Nat.le_of_ble_eq_true rfl) (s_mono h (s_V_of (fun u4 h => ?_)) (fun _ _ h9 => h9))
    show s_Ex (d + 1) 0 mX5_readPair 14 [some (.ref (o0)), some (.ref (2)), some (.int (x2)), some (.int (x3))] [] u4 Q X
    refine s_blk [(.aload_n 0, 1, 0, 0), (.aload_n 1, 1, 0, 0), (.iload_n 2, 1, 0, 0), (.iconst 1, 1, 0, 0), (.iadd, 1, 0, 0)] 19 [some (.ref (o0)), some (.ref (2)), some (.int (x2)), some (.int (x3))] [.int (x2 + 1), .ref (2), .ref (o0)] u4 [] (by decide +kernel) (by refine qt_aload_n (r := o0) rfl ?_; refine qt_aload_n (r := 2) rfl ?_; refine qt_iload_n (x := x2) rfl ?_; refine qt_iconst qc_1 ?_; refine qt_iadd ?_; exact qt_z rfl rfl rfl rfl rfl) trivial ?_
    obtain ⟨hid, h⟩ := h
    refine s_callV (a := 0) (a' := 0) (As := [.ref (2), .int (x2 + 1)]) (id := o0) (st := []) kX5_readSum l_5_32 (by decide +kernel) hid rfl (Nat.le_of_ble_eq_true rfl) (s_mono h (s_V_of (fun u6 h => ?_)) (fun _ _ h9 => h9))
    show s_Ex (d + 1) 0 mX5_readPair 22 [some (.ref (o0)), some (.ref (2)), some (.int (x2)), some (.int (x3))] [] u6 Q X
    refine s_blk [(.aload_n 1, 1, 0, 0), (.bipush 44, 2, 0, 0)] 25 [some (.ref (o0)), some (.ref (2)), some (.int (x2)), some (.int (x3))] [.int (44), .ref (2)] u6 [] (by decide +kernel) (by refine qt_aload_n (r := 2) rfl ?_; refine qt_bipush qb_44 ?_; exact qt_z rfl rfl rfl rfl rfl) trivial ?_
    refine s_callV (a := 0) (a' := 0) (As := [.int (44)]) (id := 2) (st := []) kX10_need l_5_66 (by decide +kernel) (q_id_of rfl) rfl (Nat.le_of_ble_eq_true rfl) (s_mono h (s_V_of (fun u8 h => ?_)) (fun _ _ h9 => h9))
    show s_Ex (d + 1) 0 mX5_readPair 28 [some (.ref (o0)), some (.ref (2)), some (.int (x2)), some (.int (x3))] [] u8 Q X
    refine s_blk [(.aload_n 0, 1, 0, 0), (.aload_n 1, 1, 0, 0), (.iload_n 2, 1, 0, 0), (.iconst 1, 1, 0, 0), (.iadd, 1, 0, 0)] 33 [some (.ref (o0)), some (.ref (2)), some (.int (x2)), some (.int (x3))] [.int (x2 + 1), .ref (2), .ref (o0)] u8 [] (by decide +kernel) (by refine qt_aload_n (r := o0) rfl ?_; refine qt_aload_n (r := 2) rfl ?_; refine qt_iload_n (x := x2) rfl ?_; refine qt_iconst qc_1 ?_; refine qt_iadd ?_; exact qt_z rfl rfl rfl rfl rfl) trivial ?_
    obtain ⟨hid, h⟩ := h
    refine s_callV (a := 0) (a' := 0) (As := [.ref (2), .int (x2 + 1)]) (id := o0) (st := []) kX5_readSum l_5_32 (by decide +kernel) hid rfl (Nat.le_of_ble_eq_true rfl) (s_mono h (s_V_of (fun u10 h => ?_)) (fun _ _ h9 => h9))
    show s_Ex (d + 1) 0 mX5_readPair 36 [some (.ref (o0)), some (.ref (2)), some (.int (x2)), some (.int (x3))] [] u10 Q X
    refine s_blk [(.aload_n 1, 1, 0, 0), (.bipush 93, 2, 0, 0)] 39 [some (.ref (o0)), some (.ref (2)), some (.int (x2)), some (.int (x3))] [.int (93), .ref (2)] u10 [] (by decide +kernel) (by refine qt_aload_n (r := 2) rfl ?_; refine qt_bipush qb_93 ?_; exact qt_z rfl rfl rfl rfl rfl) trivial ?_
    refine s_callV (a := 0) (a' := 0) (As := [.int (93)]) (id := 2) (st := []) kX10_need l_5_66 (by decide +kernel) (q_id_of rfl) rfl (Nat.le_of_ble_eq_true rfl) (s_mono h (s_V_of (fun u12 h => ?_)) (fun _ _ h9 => h9))
    show s_Ex (d + 1) 0 mX5_readPair 42 [some (.ref (o0)), some (.ref (2)), some (.int (x2)), some (.int (x3))] [] u12 Q X
    refine s_blk [(.aload_n 0, 1, 0, 0), (.iload_n 3, 1, 0, 0)] 44 [some (.ref (o0)), some (.ref (2)), some (.int (x2)), some (.int (x3))] [.int (x3), .ref (o0)] u12 [] (by decide +kernel) (by refine qt_aload_n (r := o0) rfl ?_; refine qt_iload_n (x := x3) rfl ?_; exact qt_z rfl rfl rfl rfl rfl) trivial ?_
    obtain ⟨hid, h⟩ := h
    refine s_callV (a := 0) (a' := 0) (As := [.int (x3)]) (id := o0) (st := []) kX5_emit l_5_28 (by decide +kernel) hid rfl (Nat.le_of_ble_eq_true rfl) (s_mono h (s_V_of (fun u14 h => ?_)) (fun _ _ h9 => h9))
    show s_Ex (d + 1) 0 mX5_readPair 47 [some (.ref (o0)), some (.ref (2)), some (.int (x2)), some (.int (x3))] [] u14 Q X
    exact s_retV (by decide +kernel) rfl h
theorem eX5_readPair {d : Nat} {o0 : Nat} {x2 : Int32} {x3 : Int32} {w : q_Sm} {Q : s_Po} {X : s_Xo} (h : vX5_readPair_0 d o0 x2 x3 w Q X) : s_Ev (d + 1) 0 mX5_readPair w [.ref (o0), .ref (2), .int (x2), .int (x3)] Q X := s_of (by decide +kernel) rfl (Nat.le_of_ble_eq_true rfl) (xX5_readPair_0 h)
def vX5_mayOpen_0 (d : Nat) (x1 : Int32) (w : q_Sm) (Q : s_Po) (X : s_Xo) : Prop := ((x1 < 6) → s_EvI d 0 mX10_failed w [.ref (2)] (fun v1 u2 => ((¬ v1 = 0) → Q (some (.int (0))) u2) ∧ (¬ (¬ v1 = 0) → Q (some (.int (1))) u2)) X) ∧ (¬ (x1 < 6) → s_EvI d 0 mX10_startOfLast w [.ref (2)] (fun v3 u4 => s_EvV d 0 mX10_blame u4 [.ref (2), .int (3), .int (v3)] (fun u6 => s_EvI d 0 mX10_failed u6 [.ref (2)] (fun v7 u8 => ((¬ v7 = 0) → Q (some (.int (0))) u8) ∧ (¬ (¬ v7 = 0) → Q (some (.int (1))) u8)) X) X) X)
theorem xX5_mayOpen_0 {d : Nat} {x1 : Int32} {w : q_Sm} {Q : s_Po} {X : s_Xo} (h : vX5_mayOpen_0 d x1 w Q X) : s_Ex (d + 1) 0 mX5_mayOpen 0 [some (.ref (2)), some (.int (x1))] [] w Q X := by
  unfold vX5_mayOpen_0 at h
  refine s_blk [(.iload_n 1, 1, 0, 0), (.bipush 6, 2, 0, 0)] 3 [some (.ref (2)), some (.int (x1))] [.int (6), .int (x1)] w [] (by decide +kernel) (by refine qt_iload_n (x := x1) rfl ?_; refine qt_bipush qb_6 ?_; exact qt_z rfl rfl rfl rfl rfl) trivial ?_
  refine s_icmp (cd := .lt) (off := 12) 15 (by decide +kernel) (by decide) (fun hc => ?_) (fun hc => ?_)
  · replace h := h.1 hc
    refine s_blk [(.aload_n 0, 1, 0, 0)] 16 [some (.ref (2)), some (.int (x1))] [.ref (2)] w [] (by decide +kernel) (by refine qt_aload_n (r := 2) rfl ?_; exact qt_z rfl rfl rfl rfl rfl) trivial ?_
    refine s_callV (a := 0) (a' := 0) (As := []) (id := 2) (st := []) kX10_failed l_5_44 (by decide +kernel) (q_id_of rfl) rfl (Nat.le_of_ble_eq_true rfl) (s_mono h (s_I_of (fun v1 u2 h => ?_)) (fun _ _ h9 => h9))
    show s_Ex (d + 1) 0 mX5_mayOpen 19 [some (.ref (2)), some (.int (x1))] [.int (v1)] u2 Q X
    refine s_if (cd := .ne) (off := 7) 26 (by decide +kernel) (by decide) (fun hc => ?_) (fun hc => ?_)
    · replace h := h.1 hc
      refine s_blk [(.iconst 0, 1, 0, 0)] 27 [some (.ref (2)), some (.int (x1))] [.int (0)] u2 [] (by decide +kernel) (by refine qt_iconst qc_0 ?_; exact qt_z rfl rfl rfl rfl rfl) trivial ?_
      exact s_retI .boolean (by decide +kernel) rfl rfl h
    · replace h := h.2 hc
      refine s_blk [(.iconst 1, 1, 0, 0), (.goto 4, 3, 27, 0)] 27 [some (.ref (2)), some (.int (x1))] [.int (1)] u2 [] (by decide +kernel) (by refine qt_iconst qc_1 ?_; refine qt_goto ?_; exact qt_z rfl rfl rfl rfl rfl) trivial ?_
      exact s_retI .boolean (by decide +kernel) rfl rfl h
  · replace h := h.2 hc
    refine s_blk [(.aload_n 0, 1, 0, 0), (.iconst 3, 1, 0, 0), (.aload_n 0, 1, 0, 0)] 9 [some (.ref (2)), some (.int (x1))] [.ref (2), .int (3), .ref (2)] w [] (by decide +kernel) (by refine qt_aload_n (r := 2) rfl ?_; refine qt_iconst qc_3 ?_; refine qt_aload_n (r := 2) rfl ?_; exact qt_z rfl rfl rfl rfl rfl) trivial ?_
    refine s_callV (a := 0) (a' := 0) (As := []) (id := 2) (st := [.int (3), .ref (2)]) kX10_startOfLast l_5_89 (by decide +kernel) (q_id_of rfl) rfl (Nat.le_of_ble_eq_true rfl) (s_mono h (s_I_of (fun v3 u4 h => ?_)) (fun _ _ h9 => h9))
    show s_Ex (d + 1) 0 mX5_mayOpen 12 [some (.ref (2)), some (.int (x1))] [.int (v3), .int (3), .ref (2)] u4 Q X
    refine s_callV (a := 0) (a' := 0) (As := [.int (3), .int (v3)]) (id := 2) (st := []) kX10_blame l_5_93 (by decide +kernel) (q_id_of rfl) rfl (Nat.le_of_ble_eq_true rfl) (s_mono h (s_V_of (fun u6 h => ?_)) (fun _ _ h9 => h9))
    show s_Ex (d + 1) 0 mX5_mayOpen 15 [some (.ref (2)), some (.int (x1))] [] u6 Q X
    refine s_blk [(.aload_n 0, 1, 0, 0)] 16 [some (.ref (2)), some (.int (x1))] [.ref (2)] u6 [] (by decide +kernel) (by refine qt_aload_n (r := 2) rfl ?_; exact qt_z rfl rfl rfl rfl rfl) trivial ?_
    refine s_callV (a := 0) (a' := 0) (As := []) (id := 2) (st := []) kX10_failed l_5_44 (by decide +kernel) (q_id_of rfl) rfl (Nat.le_of_ble_eq_true rfl) (s_mono h (s_I_of (fun v7 u8 h => ?_)) (fun _ _ h9 => h9))
    show s_Ex (d + 1) 0 mX5_mayOpen 19 [some (.ref (2)), some (.int (x1))] [.int (v7)] u8 Q X
    refine s_if (cd := .ne) (off := 7) 26 (by decide +kernel) (by decide) (fun hc => ?_) (fun hc => ?_)
    · replace h := h.1 hc
      refine s_blk [(.iconst 0, 1, 0, 0)] 27 [some (.ref (2)), some (.int (x1))] [.int (0)] u8 [] (by decide +kernel) (by refine qt_iconst qc_0 ?_; exact qt_z rfl rfl rfl rfl rfl) trivial ?_
      exact s_retI .boolean (by decide +kernel) rfl rfl h
    · replace h := h.2 hc
      refine s_blk [(.iconst 1, 1, 0, 0), (.goto 4, 3, 27, 0)] 27 [some (.ref (2)), some (.int (x1))] [.int (1)] u8 [] (by decide +kernel) (by refine qt_iconst qc_1 ?_; refine qt_goto ?_; exact qt_z rfl rfl rfl rfl rfl) trivial ?_
      exact s_retI .boolean (by decide +kernel) rfl rfl h
theorem eX5_mayOpen {d : Nat} {x1 : Int32} {w : q_Sm} {Q : s_Po} {X : s_Xo} (h : vX5_mayOpen_0 d x1 w Q X) : s_Ev (d + 1) 0 mX5_mayOpen w [.ref (2), .int (x1)] Q X := s_of (by decide +kernel) rfl (Nat.le_of_ble_eq_true rfl) (xX5_mayOpen_0 h)
def vX5_readName_0 (d : Nat) (o0 : Nat) (w : q_Sm) (Q : s_Po) (X : s_Xo) : Prop := s_EvI d 0 mX10_was w [.ref (2), .retAddr (14)] (fun v1 u2 => ((v1 = 0) → s_EvI d 0 mX10_was u2 [.ref (2), .retAddr (15)] (fun v3 u4 => ((v3 = 0) → s_EvI d 0 mX10_was u4 [.ref (2), .retAddr (16)] (fun v5 u6 => ((v5 = 0) → s_EvI d 0 mX10_was u6 [.ref (2), .retAddr (17)] (fun v7 u8 => ((v7 = 0) → s_EvI d 0 mX10_was u8 [.ref (2), .retAddr (18)] (fun v9 u10 => ((v9 = 0) → s_EvI d 0 mX10_was u10 [.ref (2), .retAddr (19)] (fun v11 u12 => ((v11 = 0) → s_EvI d 0 mX10_was u12 [.ref (2), .retAddr (20)] (fun v13 u14 => ((v13 = 0) → s_EvI d 0 mX10_startOfLast u14 [.ref (2)] (fun v15 u16 => s_EvV d 0 mX10_blame u16 [.ref (2), .int (1), .int (v15)] (fun u18 => Q none u18) X) X) ∧ (¬ (v13 = 0) → q_id 116 5 o0 ∧ s_EvV d 0 mX5_emit u14 [.ref (o0), .int (-7)] (fun u20 => Q none u20) X)) X) ∧ (¬ (v11 = 0) → q_id 116 5 o0 ∧ s_EvV d 0 mX5_emit u12 [.ref (o0), .int (-6)] (fun u22 => Q none u22) X)) X) ∧ (¬ (v9 = 0) → q_id 116 5 o0 ∧ s_EvV d 0 mX5_emit u10 [.ref (o0), .int (-5)] (fun u24 => Q none u24) X)) X) ∧ (¬ (v7 = 0) → q_id 116 5 o0 ∧ s_EvV d 0 mX5_emit u8 [.ref (o0), .int (-4)] (fun u26 => Q none u26) X)) X) ∧ (¬ (v5 = 0) → q_id 116 5 o0 ∧ s_EvV d 0 mX5_emit u6 [.ref (o0), .int (-3)] (fun u28 => Q none u28) X)) X) ∧ (¬ (v3 = 0) → q_id 116 5 o0 ∧ s_EvV d 0 mX5_emit u4 [.ref (o0), .int (-2)] (fun u30 => Q none u30) X)) X) ∧ (¬ (v1 = 0) → q_id 116 5 o0 ∧ s_EvV d 0 mX5_emit u2 [.ref (o0), .int (-1)] (fun u32 => Q none u32) X)) X
theorem xX5_readName_0 {d : Nat} {o0 : Nat} {w : q_Sm} {Q : s_Po} {X : s_Xo} (h : vX5_readName_0 d o0 w Q X) : s_Ex (d + 1) 0 mX5_readName 0 [some (.ref (o0)), some (.ref (2))] [] w Q X := by
  unfold vX5_readName_0 at h
  refine s_blk [(.aload_n 1, 1, 0, 0), (.ldc 97, 2, 1, 14)] 3 [some (.ref (o0)), some (.ref (2))] [.retAddr (14), .ref (2)] w [] (by decide +kernel) (by refine qt_aload_n (r := 2) rfl ?_; refine qt_ldcS ?_; exact qt_z rfl rfl rfl rfl rfl) trivial ?_
  refine s_callV (a := 0) (a' := 0) (As := [.retAddr (14)]) (id := 2) (st := []) kX10_was l_5_75 (by decide +kernel) (q_id_of rfl) rfl (Nat.le_of_ble_eq_true rfl) (s_mono h (s_I_of (fun v1 u2 h => ?_)) (fun _ _ h9 => h9))
  show s_Ex (d + 1) 0 mX5_readName 6 [some (.ref (o0)), some (.ref (2))] [.int (v1)] u2 Q X
  refine s_if (cd := .eq) (off := 11) 17 (by decide +kernel) (by decide) (fun hc => ?_) (fun hc => ?_)
  · replace h := h.1 hc
    refine s_blk [(.aload_n 1, 1, 0, 0), (.ldc 99, 2, 1, 15)] 20 [some (.ref (o0)), some (.ref (2))] [.retAddr (15), .ref (2)] u2 [] (by decide +kernel) (by refine qt_aload_n (r := 2) rfl ?_; refine qt_ldcS ?_; exact qt_z rfl rfl rfl rfl rfl) trivial ?_
    refine s_callV (a := 0) (a' := 0) (As := [.retAddr (15)]) (id := 2) (st := []) kX10_was l_5_75 (by decide +kernel) (q_id_of rfl) rfl (Nat.le_of_ble_eq_true rfl) (s_mono h (s_I_of (fun v3 u4 h => ?_)) (fun _ _ h9 => h9))
    show s_Ex (d + 1) 0 mX5_readName 23 [some (.ref (o0)), some (.ref (2))] [.int (v3)] u4 Q X
    refine s_if (cd := .eq) (off := 12) 35 (by decide +kernel) (by decide) (fun hc => ?_) (fun hc => ?_)
    · replace h := h.1 hc
      refine s_blk [(.aload_n 1, 1, 0, 0), (.ldc 101, 2, 1, 16)] 38 [some (.ref (o0)), some (.ref (2))] [.retAddr (16), .ref (2)] u4 [] (by decide +kernel) (by refine qt_aload_n (r := 2) rfl ?_; refine qt_ldcS ?_; exact qt_z rfl rfl rfl rfl rfl) trivial ?_
      refine s_callV (a := 0) (a' := 0) (As := [.retAddr (16)]) (id := 2) (st := []) kX10_was l_5_75 (by decide +kernel) (q_id_of rfl) rfl (Nat.le_of_ble_eq_true rfl) (s_mono h (s_I_of (fun v5 u6 h => ?_)) (fun _ _ h9 => h9))
      show s_Ex (d + 1) 0 mX5_readName 41 [some (.ref (o0)), some (.ref (2))] [.int (v5)] u6 Q X
      refine s_if (cd := .eq) (off := 12) 53 (by decide +kernel) (by decide) (fun hc => ?_) (fun hc => ?_)
      · replace h := h.1 hc
        refine s_blk [(.aload_n 1, 1, 0, 0), (.ldc 103, 2, 1, 17)] 56 [some (.ref (o0)), some (.ref (2))] [.retAddr (17), .ref (2)] u6 [] (by decide +kernel) (by refine qt_aload_n (r := 2) rfl ?_; refine qt_ldcS ?_; exact qt_z rfl rfl rfl rfl rfl) trivial ?_
        refine s_callV (a := 0) (a' := 0) (As := [.retAddr (17)]) (id := 2) (st := []) kX10_was l_5_75 (by decide +kernel) (q_id_of rfl) rfl (Nat.le_of_ble_eq_true rfl) (s_mono h (s_I_of (fun v7 u8 h => ?_)) (fun _ _ h9 => h9))
        show s_Ex (d + 1) 0 mX5_readName 59 [some (.ref (o0)), some (.ref (2))] [.int (v7)] u8 Q X
        refine s_if (cd := .eq) (off := 12) 71 (by decide +kernel) (by decide) (fun hc => ?_) (fun hc => ?_)
        · replace h := h.1 hc
          refine s_blk [(.aload_n 1, 1, 0, 0), (.ldc 105, 2, 1, 18)] 74 [some (.ref (o0)), some (.ref (2))] [.retAddr (18), .ref (2)] u8 [] (by decide +kernel) (by refine qt_aload_n (r := 2) rfl ?_; refine qt_ldcS ?_; exact qt_z rfl rfl rfl rfl rfl) trivial ?_
          refine s_callV (a := 0) (a' := 0) (As := [.retAddr (18)]) (id := 2) (st := []) kX10_was l_5_75 (by decide +kernel) (q_id_of rfl) rfl (Nat.le_of_ble_eq_true rfl) (s_mono h (s_I_of (fun v9 u10 h => ?_)) (fun _ _ h9 => h9))
          show s_Ex (d + 1) 0 mX5_readName 77 [some (.ref (o0)), some (.ref (2))] [.int (v9)] u10 Q X
          refine s_if (cd := .eq) (off := 12) 89 (by decide +kernel) (by decide) (fun hc => ?_) (fun hc => ?_)
          · replace h := h.1 hc
            refine s_blk [(.aload_n 1, 1, 0, 0), (.ldc 107, 2, 1, 19)] 92 [some (.ref (o0)), some (.ref (2))] [.retAddr (19), .ref (2)] u10 [] (by decide +kernel) (by refine qt_aload_n (r := 2) rfl ?_; refine qt_ldcS ?_; exact qt_z rfl rfl rfl rfl rfl) trivial ?_
            refine s_callV (a := 0) (a' := 0) (As := [.retAddr (19)]) (id := 2) (st := []) kX10_was l_5_75 (by decide +kernel) (q_id_of rfl) rfl (Nat.le_of_ble_eq_true rfl) (s_mono h (s_I_of (fun v11 u12 h => ?_)) (fun _ _ h9 => h9))
            show s_Ex (d + 1) 0 mX5_readName 95 [some (.ref (o0)), some (.ref (2))] [.int (v11)] u12 Q X
            refine s_if (cd := .eq) (off := 12) 107 (by decide +kernel) (by decide) (fun hc => ?_) (fun hc => ?_)
            · replace h := h.1 hc
              refine s_blk [(.aload_n 1, 1, 0, 0), (.ldc 109, 2, 1, 20)] 110 [some (.ref (o0)), some (.ref (2))] [.retAddr (20), .ref (2)] u12 [] (by decide +kernel) (by refine qt_aload_n (r := 2) rfl ?_; refine qt_ldcS ?_; exact qt_z rfl rfl rfl rfl rfl) trivial ?_
              refine s_callV (a := 0) (a' := 0) (As := [.retAddr (20)]) (id := 2) (st := []) kX10_was l_5_75 (by decide +kernel) (q_id_of rfl) rfl (Nat.le_of_ble_eq_true rfl) (s_mono h (s_I_of (fun v13 u14 h => ?_)) (fun _ _ h9 => h9))
              show s_Ex (d + 1) 0 mX5_readName 113 [some (.ref (o0)), some (.ref (2))] [.int (v13)] u14 Q X
              refine s_if (cd := .eq) (off := 12) 125 (by decide +kernel) (by decide) (fun hc => ?_) (fun hc => ?_)
              · replace h := h.1 hc
                refine s_blk [(.aload_n 1, 1, 0, 0), (.iconst 1, 1, 0, 0), (.aload_n 1, 1, 0, 0)] 128 [some (.ref (o0)), some (.ref (2))] [.ref (2), .int (1), .ref (2)] u14 [] (by decide +kernel) (by refine qt_aload_n (r := 2) rfl ?_; refine qt_iconst qc_1 ?_; refine qt_aload_n (r := 2) rfl ?_; exact qt_z rfl rfl rfl rfl rfl) trivial ?_
                refine s_callV (a := 0) (a' := 0) (As := []) (id := 2) (st := [.int (1), .ref (2)]) kX10_startOfLast l_5_89 (by decide +kernel) (q_id_of rfl) rfl (Nat.le_of_ble_eq_true rfl) (s_mono h (s_I_of (fun v15 u16 h => ?_)) (fun _ _ h9 => h9))
                show s_Ex (d + 1) 0 mX5_readName 131 [some (.ref (o0)), some (.ref (2))] [.int (v15), .int (1), .ref (2)] u16 Q X
                refine s_callV (a := 0) (a' := 0) (As := [.int (1), .int (v15)]) (id := 2) (st := []) kX10_blame l_5_93 (by decide +kernel) (q_id_of rfl) rfl (Nat.le_of_ble_eq_true rfl) (s_mono h (s_V_of (fun u18 h => ?_)) (fun _ _ h9 => h9))
                show s_Ex (d + 1) 0 mX5_readName 134 [some (.ref (o0)), some (.ref (2))] [] u18 Q X
                exact s_retV (by decide +kernel) rfl h
              · replace h := h.2 hc
                refine s_blk [(.aload_n 0, 1, 0, 0), (.bipush (-7), 2, 0, 0)] 119 [some (.ref (o0)), some (.ref (2))] [.int (-7), .ref (o0)] u14 [] (by decide +kernel) (by refine qt_aload_n (r := o0) rfl ?_; refine qt_bipush qb_m7 ?_; exact qt_z rfl rfl rfl rfl rfl) trivial ?_
                obtain ⟨hid, h⟩ := h
                refine s_callV (a := 0) (a' := 0) (As := [.int (-7)]) (id := o0) (st := []) kX5_emit l_5_28 (by decide +kernel) hid rfl (Nat.le_of_ble_eq_true rfl) (s_mono h (s_V_of (fun u20 h => ?_)) (fun _ _ h9 => h9))
                show s_Ex (d + 1) 0 mX5_readName 122 [some (.ref (o0)), some (.ref (2))] [] u20 Q X
                refine s_blk [(.goto 12, 3, 134, 0)] 134 [some (.ref (o0)), some (.ref (2))] [] u20 [] (by decide +kernel) (by refine qt_goto ?_; exact qt_z rfl rfl rfl rfl rfl) trivial ?_
                exact s_retV (by decide +kernel) rfl h
            · replace h := h.2 hc
              refine s_blk [(.aload_n 0, 1, 0, 0), (.bipush (-6), 2, 0, 0)] 101 [some (.ref (o0)), some (.ref (2))] [.int (-6), .ref (o0)] u12 [] (by decide +kernel) (by refine qt_aload_n (r := o0) rfl ?_; refine qt_bipush qb_m6 ?_; exact qt_z rfl rfl rfl rfl rfl) trivial ?_
              obtain ⟨hid, h⟩ := h
              refine s_callV (a := 0) (a' := 0) (As := [.int (-6)]) (id := o0) (st := []) kX5_emit l_5_28 (by decide +kernel) hid rfl (Nat.le_of_ble_eq_true rfl) (s_mono h (s_V_of (fun u22 h => ?_)) (fun _ _ h9 => h9))
              show s_Ex (d + 1) 0 mX5_readName 104 [some (.ref (o0)), some (.ref (2))] [] u22 Q X
              refine s_blk [(.goto 30, 3, 134, 0)] 134 [some (.ref (o0)), some (.ref (2))] [] u22 [] (by decide +kernel) (by refine qt_goto ?_; exact qt_z rfl rfl rfl rfl rfl) trivial ?_
              exact s_retV (by decide +kernel) rfl h
          · replace h := h.2 hc
            refine s_blk [(.aload_n 0, 1, 0, 0), (.bipush (-5), 2, 0, 0)] 83 [some (.ref (o0)), some (.ref (2))] [.int (-5), .ref (o0)] u10 [] (by decide +kernel) (by refine qt_aload_n (r := o0) rfl ?_; refine qt_bipush qb_m5 ?_; exact qt_z rfl rfl rfl rfl rfl) trivial ?_
            obtain ⟨hid, h⟩ := h
            refine s_callV (a := 0) (a' := 0) (As := [.int (-5)]) (id := o0) (st := []) kX5_emit l_5_28 (by decide +kernel) hid rfl (Nat.le_of_ble_eq_true rfl) (s_mono h (s_V_of (fun u24 h => ?_)) (fun _ _ h9 => h9))
            show s_Ex (d + 1) 0 mX5_readName 86 [some (.ref (o0)), some (.ref (2))] [] u24 Q X
            refine s_blk [(.goto 48, 3, 134, 0)] 134 [some (.ref (o0)), some (.ref (2))] [] u24 [] (by decide +kernel) (by refine qt_goto ?_; exact qt_z rfl rfl rfl rfl rfl) trivial ?_
            exact s_retV (by decide +kernel) rfl h
        · replace h := h.2 hc
          refine s_blk [(.aload_n 0, 1, 0, 0), (.bipush (-4), 2, 0, 0)] 65 [some (.ref (o0)), some (.ref (2))] [.int (-4), .ref (o0)] u8 [] (by decide +kernel) (by refine qt_aload_n (r := o0) rfl ?_; refine qt_bipush qb_m4 ?_; exact qt_z rfl rfl rfl rfl rfl) trivial ?_
          obtain ⟨hid, h⟩ := h
          refine s_callV (a := 0) (a' := 0) (As := [.int (-4)]) (id := o0) (st := []) kX5_emit l_5_28 (by decide +kernel) hid rfl (Nat.le_of_ble_eq_true rfl) (s_mono h (s_V_of (fun u26 h => ?_)) (fun _ _ h9 => h9))
          show s_Ex (d + 1) 0 mX5_readName 68 [some (.ref (o0)), some (.ref (2))] [] u26 Q X
          refine s_blk [(.goto 66, 3, 134, 0)] 134 [some (.ref (o0)), some (.ref (2))] [] u26 [] (by decide +kernel) (by refine qt_goto ?_; exact qt_z rfl rfl rfl rfl rfl) trivial ?_
          exact s_retV (by decide +kernel) rfl h
      · replace h := h.2 hc
        refine s_blk [(.aload_n 0, 1, 0, 0), (.bipush (-3), 2, 0, 0)] 47 [some (.ref (o0)), some (.ref (2))] [.int (-3), .ref (o0)] u6 [] (by decide +kernel) (by refine qt_aload_n (r := o0) rfl ?_; refine qt_bipush qb_m3 ?_; exact qt_z rfl rfl rfl rfl rfl) trivial ?_
        obtain ⟨hid, h⟩ := h
        refine s_callV (a := 0) (a' := 0) (As := [.int (-3)]) (id := o0) (st := []) kX5_emit l_5_28 (by decide +kernel) hid rfl (Nat.le_of_ble_eq_true rfl) (s_mono h (s_V_of (fun u28 h => ?_)) (fun _ _ h9 => h9))
        show s_Ex (d + 1) 0 mX5_readName 50 [some (.ref (o0)), some (.ref (2))] [] u28 Q X
        refine s_blk [(.goto 84, 3, 134, 0)] 134 [some (.ref (o0)), some (.ref (2))] [] u28 [] (by decide +kernel) (by refine qt_goto ?_; exact qt_z rfl rfl rfl rfl rfl) trivial ?_
        exact s_retV (by decide +kernel) rfl h
    · replace h := h.2 hc
      refine s_blk [(.aload_n 0, 1, 0, 0), (.bipush (-2), 2, 0, 0)] 29 [some (.ref (o0)), some (.ref (2))] [.int (-2), .ref (o0)] u4 [] (by decide +kernel) (by refine qt_aload_n (r := o0) rfl ?_; refine qt_bipush qb_m2 ?_; exact qt_z rfl rfl rfl rfl rfl) trivial ?_
      obtain ⟨hid, h⟩ := h
      refine s_callV (a := 0) (a' := 0) (As := [.int (-2)]) (id := o0) (st := []) kX5_emit l_5_28 (by decide +kernel) hid rfl (Nat.le_of_ble_eq_true rfl) (s_mono h (s_V_of (fun u30 h => ?_)) (fun _ _ h9 => h9))
      show s_Ex (d + 1) 0 mX5_readName 32 [some (.ref (o0)), some (.ref (2))] [] u30 Q X
      refine s_blk [(.goto 102, 3, 134, 0)] 134 [some (.ref (o0)), some (.ref (2))] [] u30 [] (by decide +kernel) (by refine qt_goto ?_; exact qt_z rfl rfl rfl rfl rfl) trivial ?_
      exact s_retV (by decide +kernel) rfl h
  · replace h := h.2 hc
    refine s_blk [(.aload_n 0, 1, 0, 0), (.iconst (-1), 1, 0, 0)] 11 [some (.ref (o0)), some (.ref (2))] [.int (-1), .ref (o0)] u2 [] (by decide +kernel) (by refine qt_aload_n (r := o0) rfl ?_; refine qt_iconst qc_m1 ?_; exact qt_z rfl rfl rfl rfl rfl) trivial ?_
    obtain ⟨hid, h⟩ := h
    refine s_callV (a := 0) (a' := 0) (As := [.int (-1)]) (id := o0) (st := []) kX5_emit l_5_28 (by decide +kernel) hid rfl (Nat.le_of_ble_eq_true rfl) (s_mono h (s_V_of (fun u32 h => ?_)) (fun _ _ h9 => h9))
    show s_Ex (d + 1) 0 mX5_readName 14 [some (.ref (o0)), some (.ref (2))] [] u32 Q X
    refine s_blk [(.goto 120, 3, 134, 0)] 134 [some (.ref (o0)), some (.ref (2))] [] u32 [] (by decide +kernel) (by refine qt_goto ?_; exact qt_z rfl rfl rfl rfl rfl) trivial ?_
    exact s_retV (by decide +kernel) rfl h
theorem eX5_readName {d : Nat} {o0 : Nat} {w : q_Sm} {Q : s_Po} {X : s_Xo} (h : vX5_readName_0 d o0 w Q X) : s_Ev (d + 1) 0 mX5_readName w [.ref (o0), .ref (2)] Q X := s_of (by decide +kernel) rfl (Nat.le_of_ble_eq_true rfl) (xX5_readName_0 h)
def vX5_emit_0 (d : Nat) (o0 : Nat) (x1 : Int32) (w : q_Sm) (Q : s_Po) (X : s_Xo) : Prop := (q_id 116 5 o0) ∧ ((150 ≤ (w.1 o0 1)) → Q none w) ∧ (¬ (150 ≤ (w.1 o0 1)) → (q_id 116 5 o0) ∧ (q_id 116 5 o0) ∧ (q_id 116 14 (o0 + 1)) ∧ (vp_in (w.1 o0 1) (q_sh (o0 + 1)).2) ∧ ∀ w_1 : q_Sm, w_1 = q_wI w (o0 + 1) (Int32.toNatClampNeg (w.1 o0 1)) x1 → (q_id 116 5 o0) ∧ (q_id 116 5 o0) ∧ ∀ w_2 : q_Sm, w_2 = q_wI w_1 o0 1 ((w_1.1 o0 1) + 1) → Q none w_2)
theorem xX5_emit_0 {d : Nat} {o0 : Nat} {x1 : Int32} {w : q_Sm} {Q : s_Po} {X : s_Xo} (h : vX5_emit_0 d o0 x1 w Q X) : s_Ex (d + 1) 0 mX5_emit 0 [some (.ref (o0)), some (.int (x1))] [] w Q X := by
  unfold vX5_emit_0 at h
  obtain ⟨ho9, h⟩ := h
  refine s_blk [(.aload_n 0, 1, 0, 0), (.getfield 24, 3, 5, 1), (.sipush 150, 3, 0, 0)] 7 [some (.ref (o0)), some (.int (x1))] [.int (150), .int (w.1 o0 1)] w [q_id 116 5 o0] (by decide +kernel) (by refine qt_aload_n (r := o0) rfl ?_; refine qt_getI rfl rfl ?_; refine qt_sipush qs_150 ?_; exact qt_z rfl rfl rfl rfl rfl) ho9 ?_
  refine s_icmp (cd := .ge) (off := 23) 30 (by decide +kernel) (by decide) (fun hc => ?_) (fun hc => ?_)
  · replace h := h.1 hc
    exact s_retV (by decide +kernel) rfl h
  · replace h := h.2 hc
    obtain ⟨ho3, h⟩ := h
    obtain ⟨ho4, h⟩ := h
    obtain ⟨ho5, h⟩ := h
    obtain ⟨ho6, h⟩ := h
    replace h := h _ rfl
    obtain ⟨ho7, h⟩ := h
    obtain ⟨ho8, h⟩ := h
    replace h := h _ rfl
    refine s_blk [(.aload_n 0, 1, 0, 0), (.getfield 9, 3, 5, 0), (.aload_n 0, 1, 0, 0), (.getfield 24, 3, 5, 1), (.iload_n 1, 1, 0, 0), (.iastore, 1, 0, 0), (.aload_n 0, 1, 0, 0), (.dup, 1, 0, 0), (.getfield 24, 3, 5, 1), (.iconst 1, 1, 0, 0), (.iadd, 1, 0, 0), (.putfield 24, 3, 5, 1)] 30 [some (.ref (o0)), some (.int (x1))] [] (q_wI (q_wI w (o0 + 1) (Int32.toNatClampNeg (w.1 o0 1)) x1) o0 1 (((q_wI w (o0 + 1) (Int32.toNatClampNeg (w.1 o0 1)) x1).1 o0 1) + 1)) [q_id 116 5 o0, q_id 116 5 o0, q_id 116 14 (o0 + 1), vp_in (w.1 o0 1) (q_sh (o0 + 1)).2, q_id 116 5 o0, q_id 116 5 o0] (by decide +kernel) (by refine qt_aload_n (r := o0) rfl ?_; refine qt_getR (r := o0 + 1) rfl rfl rfl ?_; refine qt_aload_n (r := o0) rfl ?_; refine qt_getI rfl rfl ?_; refine qt_iload_n (x := x1) rfl ?_; refine qt_iast ?_; refine qt_aload_n (r := o0) rfl ?_; refine qt_dupR ?_; refine qt_getI rfl rfl ?_; refine qt_iconst qc_1 ?_; refine qt_iadd ?_; refine qt_putI rfl ?_; exact qt_z rfl rfl rfl rfl rfl) ⟨ho3, ho4, ho5, ho6, ho7, ho8⟩ ?_
    exact s_retV (by decide +kernel) rfl h
theorem eX5_emit {d : Nat} {o0 : Nat} {x1 : Int32} {w : q_Sm} {Q : s_Po} {X : s_Xo} (h : vX5_emit_0 d o0 x1 w Q X) : s_Ev (d + 1) 0 mX5_emit w [.ref (o0), .int (x1)] Q X := s_of (by decide +kernel) rfl (Nat.le_of_ble_eq_true rfl) (xX5_emit_0 h)
def vX5_growth_0 (d : Nat) (o0 : Nat) (x1 : Int32) (x2 : Int32) (x3 : Int32) (x4 : Int32) (x5 : Int32) (x6 : Int32) (x7 : Int32) (w : q_Sm) (Q : s_Po) (X : s_Xo) : Prop := (q_id 116 5 o0) ∧ (q_id 116 14 (o0 + 2)) ∧ (vp_in 0 (q_sh (o0 + 2)).2) ∧ ∀ w_1 : q_Sm, w_1 = q_wI w (o0 + 2) (Int32.toNatClampNeg 0) x1 → (q_id 116 5 o0) ∧ (q_id 116 14 (o0 + 2)) ∧ (vp_in 1 (q_sh (o0 + 2)).2) ∧ ∀ w_2 : q_Sm, w_2 = q_wI w_1 (o0 + 2) (Int32.toNatClampNeg 1) x2 → (q_id 116 5 o0) ∧ (q_id 116 14 (o0 + 2)) ∧ (vp_in 2 (q_sh (o0 + 2)).2) ∧ ∀ w_3 : q_Sm, w_3 = q_wI w_2 (o0 + 2) (Int32.toNatClampNeg 2) x3 → (q_id 116 5 o0) ∧ (q_id 116 14 (o0 + 2)) ∧ (vp_in 3 (q_sh (o0 + 2)).2) ∧ ∀ w_4 : q_Sm, w_4 = q_wI w_3 (o0 + 2) (Int32.toNatClampNeg 3) x4 → (q_id 116 5 o0) ∧ (q_id 116 14 (o0 + 2)) ∧ (vp_in 4 (q_sh (o0 + 2)).2) ∧ ∀ w_5 : q_Sm, w_5 = q_wI w_4 (o0 + 2) (Int32.toNatClampNeg 4) x5 → (q_id 116 5 o0) ∧ (q_id 116 14 (o0 + 2)) ∧ (vp_in 5 (q_sh (o0 + 2)).2) ∧ ∀ w_6 : q_Sm, w_6 = q_wI w_5 (o0 + 2) (Int32.toNatClampNeg 5) x6 → (q_id 116 5 o0) ∧ (q_id 116 14 (o0 + 2)) ∧ (vp_in 6 (q_sh (o0 + 2)).2) ∧ ∀ w_7 : q_Sm, w_7 = q_wI w_6 (o0 + 2) (Int32.toNatClampNeg 6) x7 → s_Ex (d + 1) 0 mX5_growth 60 [some (.ref (o0)), none, none, none, none, none, none, none, some (.int (0)), some (.int (0)), none] [] w_7 Q X
def vX5_growth_60 (d : Nat) (o0 : Nat) (x8 : Int32) (x9 : Int32) (w : q_Sm) (Q : s_Po) (X : s_Xo) : Prop := (q_id 116 5 o0) ∧ (((w.1 o0 1) ≤ x9) → (q_id 116 5 o0) ∧ (q_id 116 14 (o0 + 3)) ∧ (vp_in 0 (q_sh (o0 + 3)).2) ∧ s_EvI d 0 mK_min w [.int (99), .int (w.1 (o0 + 3) (Int32.toNatClampNeg 0))] (fun v29 u30 => s_EvI d 0 mK_max u30 [.int (0), .int (v29)] (fun v31 u32 => Q (some (.int (v31))) u32) X) X) ∧ (¬ ((w.1 o0 1) ≤ x9) → (q_id 116 5 o0) ∧ (q_id 116 14 (o0 + 1)) ∧ (vp_in x9 (q_sh (o0 + 1)).2) ∧ (((w.1 (o0 + 1) (Int32.toNatClampNeg x9)) < 0) → s_Ex (d + 1) 0 mX5_growth 105 [some (.ref (o0)), none, none, none, none, none, none, none, some (.int (x8)), some (.int (x9)), some (.int (w.1 (o0 + 1) (Int32.toNatClampNeg x9)))] [] w Q X) ∧ (¬ ((w.1 (o0 + 1) (Int32.toNatClampNeg x9)) < 0) → ((40 ≤ x8) → s_Ex (d + 1) 0 mX5_growth 105 [some (.ref (o0)), none, none, none, none, none, none, none, some (.int (x8)), some (.int (x9)), some (.int (w.1 (o0 + 1) (Int32.toNatClampNeg x9)))] [] w Q X) ∧ (¬ (40 ≤ x8) → (q_id 116 5 o0) ∧ (q_id 116 14 (o0 + 3)) ∧ (vp_in x8 (q_sh (o0 + 3)).2) ∧ ∀ w_36 : q_Sm, w_36 = q_wI w (o0 + 3) (Int32.toNatClampNeg x8) (w.1 (o0 + 1) (Int32.toNatClampNeg x9)) → s_Ex (d + 1) 0 mX5_growth 180 [some (.ref (o0)), none, none, none, none, none, none, none, some (.int (x8 + 1)), some (.int (x9)), none] [] w_36 Q X)))
def vX5_growth_105 (d : Nat) (o0 : Nat) (x8 : Int32) (x9 : Int32) (x10 : Int32) (w : q_Sm) (Q : s_Po) (X : s_Xo) : Prop := ((x10 ≤ (-8)) → s_Ex (d + 1) 0 mX5_growth 141 [some (.ref (o0)), none, none, none, none, none, none, none, some (.int (x8)), some (.int (x9)), some (.int (x10))] [] w Q X) ∧ (¬ (x10 ≤ (-8)) → ((40 ≤ x8) → s_Ex (d + 1) 0 mX5_growth 141 [some (.ref (o0)), none, none, none, none, none, none, none, some (.int (x8)), some (.int (x9)), some (.int (x10))] [] w Q X) ∧ (¬ (40 ≤ x8) → (q_id 116 5 o0) ∧ (q_id 116 5 o0) ∧ (q_id 116 14 (o0 + 2)) ∧ (vp_in ((-1) - x10) (q_sh (o0 + 2)).2) ∧ (q_id 116 14 (o0 + 3)) ∧ (vp_in x8 (q_sh (o0 + 3)).2) ∧ ∀ w_44 : q_Sm, w_44 = q_wI w (o0 + 3) (Int32.toNatClampNeg x8) (w.1 (o0 + 2) (Int32.toNatClampNeg ((-1) - x10))) → s_Ex (d + 1) 0 mX5_growth 180 [some (.ref (o0)), none, none, none, none, none, none, none, some (.int (x8 + 1)), some (.int (x9)), none] [] w_44 Q X))
def vX5_growth_180 (d : Nat) (o0 : Nat) (x8 : Int32) (x9 : Int32) (w : q_Sm) (Q : s_Po) (X : s_Xo) : Prop := s_Ex (d + 1) 0 mX5_growth 60 [some (.ref (o0)), none, none, none, none, none, none, none, some (.int (x8)), some (.int (x9 + 1)), none] [] w Q X
def vX5_growth_141 (d : Nat) (o0 : Nat) (x8 : Int32) (x9 : Int32) (x10 : Int32) (w : q_Sm) (Q : s_Po) (X : s_Xo) : Prop := ((x8 < 2) → s_Ex (d + 1) 0 mX5_growth 180 [some (.ref (o0)), none, none, none, none, none, none, none, some (.int (x8)), some (.int (x9)), none] [] w Q X) ∧ (¬ (x8 < 2) → (q_id 116 5 o0) ∧ (q_id 116 5 o0) ∧ (q_id 116 14 (o0 + 3)) ∧ (vp_in ((x8 + (-1)) - 1) (q_sh (o0 + 3)).2) ∧ (q_id 116 5 o0) ∧ (q_id 116 14 (o0 + 3)) ∧ (vp_in (x8 + (-1)) (q_sh (o0 + 3)).2) ∧ s_EvI d 0 mX5_joined w [.int (x10), .int (w.1 (o0 + 3) (Int32.toNatClampNeg ((x8 + (-1)) - 1))), .int (w.1 (o0 + 3) (Int32.toNatClampNeg (x8 + (-1))))] (fun v51 u52 => (q_id 116 14 (o0 + 3)) ∧ (vp_in ((x8 + (-1)) - 1) (q_sh (o0 + 3)).2) ∧ ∀ w_53 : q_Sm, w_53 = q_wI u52 (o0 + 3) (Int32.toNatClampNeg ((x8 + (-1)) - 1)) v51 → s_Ex (d + 1) 0 mX5_growth 180 [some (.ref (o0)), none, none, none, none, none, none, none, some (.int (x8 + (-1))), some (.int (x9)), none] [] w_53 Q X) X)
theorem xX5_growth_0 {d : Nat} {o0 : Nat} {x1 : Int32} {x2 : Int32} {x3 : Int32} {x4 : Int32} {x5 : Int32} {x6 : Int32} {x7 : Int32} {w : q_Sm} {Q : s_Po} {X : s_Xo} (h : vX5_growth_0 d o0 x1 x2 x3 x4 x5 x6 x7 w Q X) : s_Ex (d + 1) 0 mX5_growth 0 [some (.ref (o0)), some (.int (x1)), some (.int (x2)), some (.int (x3)), some (.int (x4)), some (.int (x5)), some (.int (x6)), some (.int (x7)), none, none, none] [] w Q X := by
  unfold vX5_growth_0 at h
  obtain ⟨ho8, h⟩ := h
  obtain ⟨ho9, h⟩ := h
  obtain ⟨ho10, h⟩ := h
  replace h := h _ rfl
  obtain ⟨ho11, h⟩ := h
  obtain ⟨ho12, h⟩ := h
  obtain ⟨ho13, h⟩ := h
  replace h := h _ rfl
  obtain ⟨ho14, h⟩ := h
  obtain ⟨ho15, h⟩ := h
  obtain ⟨ho16, h⟩ := h
  replace h := h _ rfl
  obtain ⟨ho17, h⟩ := h
  obtain ⟨ho18, h⟩ := h
  obtain ⟨ho19, h⟩ := h
  replace h := h _ rfl
  obtain ⟨ho20, h⟩ := h
  obtain ⟨ho21, h⟩ := h
  obtain ⟨ho22, h⟩ := h
  replace h := h _ rfl
  obtain ⟨ho23, h⟩ := h
  obtain ⟨ho24, h⟩ := h
  obtain ⟨ho25, h⟩ := h
  replace h := h _ rfl
  obtain ⟨ho26, h⟩ := h
  obtain ⟨ho27, h⟩ := h
  obtain ⟨ho28, h⟩ := h
  replace h := h _ rfl
  refine s_blk [(.aload_n 0, 1, 0, 0), (.getfield 15, 3, 5, 2), (.iconst 0, 1, 0, 0), (.iload_n 1, 1, 0, 0), (.iastore, 1, 0, 0), (.aload_n 0, 1, 0, 0), (.getfield 15, 3, 5, 2), (.iconst 1, 1, 0, 0), (.iload_n 2, 1, 0, 0), (.iastore, 1, 0, 0), (.aload_n 0, 1, 0, 0), (.getfield 15, 3, 5, 2), (.iconst 2, 1, 0, 0), (.iload_n 3, 1, 0, 0), (.iastore, 1, 0, 0), (.aload_n 0, 1, 0, 0), (.getfield 15, 3, 5, 2), (.iconst 3, 1, 0, 0), (.iload 4, 2, 0, 0), (.iastore, 1, 0, 0), (.aload_n 0, 1, 0, 0), (.getfield 15, 3, 5, 2), (.iconst 4, 1, 0, 0), (.iload 5, 2, 0, 0), (.iastore, 1, 0, 0), (.aload_n 0, 1, 0, 0), (.getfield 15, 3, 5, 2), (.iconst 5, 1, 0, 0), (.iload 6, 2, 0, 0), (.iastore, 1, 0, 0), (.aload_n 0, 1, 0, 0), (.getfield 15, 3, 5, 2), (.bipush 6, 2, 0, 0), (.iload 7, 2, 0, 0), (.iastore, 1, 0, 0), (.iconst 0, 1, 0, 0), (.istore 8, 2, 0, 0), (.iconst 0, 1, 0, 0), (.istore 9, 2, 0, 0), (.nop, 0, 1, 0), (.nop, 0, 2, 0), (.nop, 0, 3, 0), (.nop, 0, 4, 0), (.nop, 0, 5, 0), (.nop, 0, 6, 0), (.nop, 0, 7, 0)] 60 [some (.ref (o0)), none, none, none, none, none, none, none, some (.int (0)), some (.int (0)), none] [] (q_wI (q_wI (q_wI (q_wI (q_wI (q_wI (q_wI w (o0 + 2) (Int32.toNatClampNeg 0) x1) (o0 + 2) (Int32.toNatClampNeg 1) x2) (o0 + 2) (Int32.toNatClampNeg 2) x3) (o0 + 2) (Int32.toNatClampNeg 3) x4) (o0 + 2) (Int32.toNatClampNeg 4) x5) (o0 + 2) (Int32.toNatClampNeg 5) x6) (o0 + 2) (Int32.toNatClampNeg 6) x7) [q_id 116 5 o0, q_id 116 14 (o0 + 2), vp_in 0 (q_sh (o0 + 2)).2, q_id 116 5 o0, q_id 116 14 (o0 + 2), vp_in 1 (q_sh (o0 + 2)).2, q_id 116 5 o0, q_id 116 14 (o0 + 2), vp_in 2 (q_sh (o0 + 2)).2, q_id 116 5 o0, q_id 116 14 (o0 + 2), vp_in 3 (q_sh (o0 + 2)).2, q_id 116 5 o0, q_id 116 14 (o0 + 2), vp_in 4 (q_sh (o0 + 2)).2, q_id 116 5 o0, q_id 116 14 (o0 + 2), vp_in 5 (q_sh (o0 + 2)).2, q_id 116 5 o0, q_id 116 14 (o0 + 2), vp_in 6 (q_sh (o0 + 2)).2] (by decide +kernel) (by refine qt_aload_n (r := o0) rfl ?_; refine qt_getR (r := o0 + 2) rfl rfl rfl ?_; refine qt_iconst qc_0 ?_; refine qt_iload_n (x := x1) rfl ?_; refine qt_iast ?_; refine qt_aload_n (r := o0) rfl ?_; refine qt_getR (r := o0 + 2) rfl rfl rfl ?_; refine qt_iconst qc_1 ?_; refine qt_iload_n (x := x2) rfl ?_; refine qt_iast ?_; refine qt_aload_n (r := o0) rfl ?_; refine qt_getR (r := o0 + 2) rfl rfl rfl ?_; refine qt_iconst qc_2 ?_; refine qt_iload_n (x := x3) rfl ?_; refine qt_iast ?_; refine qt_aload_n (r := o0) rfl ?_; refine qt_getR (r := o0 + 2) rfl rfl rfl ?_; refine qt_iconst qc_3 ?_; refine qt_iload (x := x4) rfl ?_; refine qt_iast ?_; refine qt_aload_n (r := o0) rfl ?_; refine qt_getR (r := o0 + 2) rfl rfl rfl ?_; refine qt_iconst qc_4 ?_; refine qt_iload (x := x5) rfl ?_; refine qt_iast ?_; refine qt_aload_n (r := o0) rfl ?_; refine qt_getR (r := o0 + 2) rfl rfl rfl ?_; refine qt_iconst qc_5 ?_; refine qt_iload (x := x6) rfl ?_; refine qt_iast ?_; refine qt_aload_n (r := o0) rfl ?_; refine qt_getR (r := o0 + 2) rfl rfl rfl ?_; refine qt_bipush qb_6 ?_; refine qt_iload (x := x7) rfl ?_; refine qt_iast ?_; refine qt_iconst qc_0 ?_; refine qt_istore (L' := [some (.ref (o0)), some (.int (x1)), some (.int (x2)), some (.int (x3)), some (.int (x4)), some (.int (x5)), some (.int (x6)), some (.int (x7)), some (.int (0)), none, none]) rfl ?_; refine qt_iconst qc_0 ?_; refine qt_istore (L' := [some (.ref (o0)), some (.int (x1)), some (.int (x2)), some (.int (x3)), some (.int (x4)), some (.int (x5)), some (.int (x6)), some (.int (x7)), some (.int (0)), some (.int (0)), none]) rfl ?_; refine qt_nop (L' := [some (.ref (o0)), none, some (.int (x2)), some (.int (x3)), some (.int (x4)), some (.int (x5)), some (.int (x6)), some (.int (x7)), some (.int (0)), some (.int (0)), none]) rfl ?_; refine qt_nop (L' := [some (.ref (o0)), none, none, some (.int (x3)), some (.int (x4)), some (.int (x5)), some (.int (x6)), some (.int (x7)), some (.int (0)), some (.int (0)), none]) rfl ?_; refine qt_nop (L' := [some (.ref (o0)), none, none, none, some (.int (x4)), some (.int (x5)), some (.int (x6)), some (.int (x7)), some (.int (0)), some (.int (0)), none]) rfl ?_; refine qt_nop (L' := [some (.ref (o0)), none, none, none, none, some (.int (x5)), some (.int (x6)), some (.int (x7)), some (.int (0)), some (.int (0)), none]) rfl ?_; refine qt_nop (L' := [some (.ref (o0)), none, none, none, none, none, some (.int (x6)), some (.int (x7)), some (.int (0)), some (.int (0)), none]) rfl ?_; refine qt_nop (L' := [some (.ref (o0)), none, none, none, none, none, none, some (.int (x7)), some (.int (0)), some (.int (0)), none]) rfl ?_; refine qt_nop (L' := [some (.ref (o0)), none, none, none, none, none, none, none, some (.int (0)), some (.int (0)), none]) rfl ?_; exact qt_z rfl rfl rfl rfl rfl) ⟨ho8, ho9, ho10, ho11, ho12, ho13, ho14, ho15, ho16, ho17, ho18, ho19, ho20, ho21, ho22, ho23, ho24, ho25, ho26, ho27, ho28⟩ ?_
  exact h
theorem xX5_growth_60 {d : Nat} {o0 : Nat} {x8 : Int32} {x9 : Int32} {w : q_Sm} {Q : s_Po} {X : s_Xo} (h : vX5_growth_60 d o0 x8 x9 w Q X) : s_Ex (d + 1) 0 mX5_growth 60 [some (.ref (o0)), none, none, none, none, none, none, none, some (.int (x8)), some (.int (x9)), none] [] w Q X := by
  unfold vX5_growth_60 at h
  obtain ⟨ho43, h⟩ := h
  refine s_blk [(.iload 9, 2, 0, 0), (.aload_n 0, 1, 0, 0), (.getfield 24, 3, 5, 1)] 66 [some (.ref (o0)), none, none, none, none, none, none, none, some (.int (x8)), some (.int (x9)), none] [.int (w.1 o0 1), .int (x9)] w [q_id 116 5 o0] (by decide +kernel) (by refine qt_iload (x := x9) rfl ?_; refine qt_aload_n (r := o0) rfl ?_; refine qt_getI rfl rfl ?_; exact qt_z rfl rfl rfl rfl rfl) ho43 ?_
  refine s_icmp (cd := .ge) (off := 120) 186 (by decide +kernel) (by decide) (fun hc => ?_) (fun hc => ?_)
  · replace h := h.1 hc
    obtain ⟨ho33, h⟩ := h
    obtain ⟨ho34, h⟩ := h
    obtain ⟨ho35, h⟩ := h
    refine s_blk [(.iconst 0, 1, 0, 0), (.bipush 99, 2, 0, 0), (.aload_n 0, 1, 0, 0), (.getfield 18, 3, 5, 3), (.iconst 0, 1, 0, 0), (.iaload, 1, 0, 0)] 195 [some (.ref (o0)), none, none, none, none, none, none, none, some (.int (x8)), some (.int (x9)), none] [.int (w.1 (o0 + 3) (Int32.toNatClampNeg 0)), .int (99), .int (0)] w [q_id 116 5 o0, q_id 116 14 (o0 + 3), vp_in 0 (q_sh (o0 + 3)).2] (by decide +kernel) (by refine qt_iconst qc_0 ?_; refine qt_bipush qb_99 ?_; refine qt_aload_n (r := o0) rfl ?_; refine qt_getR (r := o0 + 3) rfl rfl rfl ?_; refine qt_iconst qc_0 ?_; refine qt_iald ?_; exact qt_z rfl rfl rfl rfl rfl) ⟨ho33, ho34, ho35⟩ ?_
    refine s_callS (a := 0) (a' := 0) (As := [.int (99), .int (w.1 (o0 + 3) (Int32.toNatClampNeg 0))]) (st := [.int (0)]) kK_min l_5_115 (by decide +kernel) rfl (Nat.le_of_ble_eq_true rfl) (s_mono h (s_I_of (fun v29 u30 h => ?_)) (fun _ _ h9 => h9))
    show s_Ex (d + 1) 0 mX5_growth 198 [some (.ref (o0)), none, none, none, none, none, none, none, some (.int (x8)), some (.int (x9)), none] [.int (v29), .int (0)] u30 Q X
    refine s_callS (a := 0) (a' := 0) (As := [.int (0), .int (v29)]) (st := []) kK_max l_5_120 (by decide +kernel) rfl (Nat.le_of_ble_eq_true rfl) (s_mono h (s_I_of (fun v31 u32 h => ?_)) (fun _ _ h9 => h9))
    show s_Ex (d + 1) 0 mX5_growth 201 [some (.ref (o0)), none, none, none, none, none, none, none, some (.int (x8)), some (.int (x9)), none] [.int (v31)] u32 Q X
    exact s_retI .int (by decide +kernel) rfl rfl h
  · replace h := h.2 hc
    obtain ⟨ho40, h⟩ := h
    obtain ⟨ho41, h⟩ := h
    obtain ⟨ho42, h⟩ := h
    refine s_blk [(.aload_n 0, 1, 0, 0), (.getfield 9, 3, 5, 0), (.iload 9, 2, 0, 0), (.iaload, 1, 0, 0), (.istore 10, 2, 0, 0), (.iload 10, 2, 0, 0)] 80 [some (.ref (o0)), none, none, none, none, none, none, none, some (.int (x8)), some (.int (x9)), some (.int (w.1 (o0 + 1) (Int32.toNatClampNeg x9)))] [.int (w.1 (o0 + 1) (Int32.toNatClampNeg x9))] w [q_id 116 5 o0, q_id 116 14 (o0 + 1), vp_in x9 (q_sh (o0 + 1)).2] (by decide +kernel) (by refine qt_aload_n (r := o0) rfl ?_; refine qt_getR (r := o0 + 1) rfl rfl rfl ?_; refine qt_iload (x := x9) rfl ?_; refine qt_iald ?_; refine qt_istore (L' := [some (.ref (o0)), none, none, none, none, none, none, none, some (.int (x8)), some (.int (x9)), some (.int (w.1 (o0 + 1) (Int32.toNatClampNeg x9)))]) rfl ?_; refine qt_iload (x := w.1 (o0 + 1) (Int32.toNatClampNeg x9)) rfl ?_; exact qt_z rfl rfl rfl rfl rfl) ⟨ho40, ho41, ho42⟩ ?_
    refine s_if (cd := .lt) (off := 25) 105 (by decide +kernel) (by decide) (fun hc => ?_) (fun hc => ?_)
    · replace h := h.1 hc
      exact h
    · replace h := h.2 hc
      refine s_blk [(.iload 8, 2, 0, 0), (.bipush 40, 2, 0, 0)] 87 [some (.ref (o0)), none, none, none, none, none, none, none, some (.int (x8)), some (.int (x9)), some (.int (w.1 (o0 + 1) (Int32.toNatClampNeg x9)))] [.int (40), .int (x8)] w [] (by decide +kernel) (by refine qt_iload (x := x8) rfl ?_; refine qt_bipush qb_40 ?_; exact qt_z rfl rfl rfl rfl rfl) trivial ?_
      refine s_icmp (cd := .ge) (off := 18) 105 (by decide +kernel) (by decide) (fun hc => ?_) (fun hc => ?_)
      · replace h := h.1 hc
        exact h
      · replace h := h.2 hc
        obtain ⟨ho37, h⟩ := h
        obtain ⟨ho38, h⟩ := h
        obtain ⟨ho39, h⟩ := h
        replace h := h _ rfl
        refine s_blk [(.aload_n 0, 1, 0, 0), (.getfield 18, 3, 5, 3), (.iload 8, 2, 0, 0), (.iload 10, 2, 0, 0), (.iastore, 1, 0, 0), (.iinc 8 1, 3, 0, 0), (.goto 78, 3, 180, 0), (.nop, 0, 10, 0)] 180 [some (.ref (o0)), none, none, none, none, none, none, none, some (.int (x8 + 1)), some (.int (x9)), none] [] (q_wI w (o0 + 3) (Int32.toNatClampNeg x8) (w.1 (o0 + 1) (Int32.toNatClampNeg x9))) [q_id 116 5 o0, q_id 116 14 (o0 + 3), vp_in x8 (q_sh (o0 + 3)).2] (by decide +kernel) (by refine qt_aload_n (r := o0) rfl ?_; refine qt_getR (r := o0 + 3) rfl rfl rfl ?_; refine qt_iload (x := x8) rfl ?_; refine qt_iload (x := w.1 (o0 + 1) (Int32.toNatClampNeg x9)) rfl ?_; refine qt_iast ?_; refine qt_iinc (x := x8) (L' := [some (.ref (o0)), none, none, none, none, none, none, none, some (.int (x8 + 1)), some (.int (x9)), some (.int (w.1 (o0 + 1) (Int32.toNatClampNeg x9)))]) rfl qc_1 rfl ?_; refine qt_goto ?_; refine qt_nop (L' := [some (.ref (o0)), none, none, none, none, none, none, none, some (.int (x8 + 1)), some (.int (x9)), none]) rfl ?_; exact qt_z rfl rfl rfl rfl rfl) ⟨ho37, ho38, ho39⟩ ?_
        exact h
theorem xX5_growth_105 {d : Nat} {o0 : Nat} {x8 : Int32} {x9 : Int32} {x10 : Int32} {w : q_Sm} {Q : s_Po} {X : s_Xo} (h : vX5_growth_105 d o0 x8 x9 x10 w Q X) : s_Ex (d + 1) 0 mX5_growth 105 [some (.ref (o0)), none, none, none, none, none, none, none, some (.int (x8)), some (.int (x9)), some (.int (x10))] [] w Q X := by
  unfold vX5_growth_105 at h
  refine s_blk [(.iload 10, 2, 0, 0), (.bipush (-8), 2, 0, 0)] 109 [some (.ref (o0)), none, none, none, none, none, none, none, some (.int (x8)), some (.int (x9)), some (.int (x10))] [.int (-8), .int (x10)] w [] (by decide +kernel) (by refine qt_iload (x := x10) rfl ?_; refine qt_bipush qb_m8 ?_; exact qt_z rfl rfl rfl rfl rfl) trivial ?_
  refine s_icmp (cd := .le) (off := 32) 141 (by decide +kernel) (by decide) (fun hc => ?_) (fun hc => ?_)
  · replace h := h.1 hc
    exact h
  · replace h := h.2 hc
    refine s_blk [(.iload 8, 2, 0, 0), (.bipush 40, 2, 0, 0)] 116 [some (.ref (o0)), none, none, none, none, none, none, none, some (.int (x8)), some (.int (x9)), some (.int (x10))] [.int (40), .int (x8)] w [] (by decide +kernel) (by refine qt_iload (x := x8) rfl ?_; refine qt_bipush qb_40 ?_; exact qt_z rfl rfl rfl rfl rfl) trivial ?_
    refine s_icmp (cd := .ge) (off := 25) 141 (by decide +kernel) (by decide) (fun hc => ?_) (fun hc => ?_)
    · replace h := h.1 hc
      exact h
    · replace h := h.2 hc
      obtain ⟨ho45, h⟩ := h
      obtain ⟨ho46, h⟩ := h
      obtain ⟨ho47, h⟩ := h
      obtain ⟨ho48, h⟩ := h
      obtain ⟨ho49, h⟩ := h
      obtain ⟨ho50, h⟩ := h
      replace h := h _ rfl
      refine s_blk [(.aload_n 0, 1, 0, 0), (.getfield 18, 3, 5, 3), (.iload 8, 2, 0, 0), (.aload_n 0, 1, 0, 0), (.getfield 15, 3, 5, 2), (.iconst (-1), 1, 0, 0), (.iload 10, 2, 0, 0), (.isub, 1, 0, 0), (.iaload, 1, 0, 0), (.iastore, 1, 0, 0), (.iinc 8 1, 3, 0, 0), (.goto 42, 3, 180, 0), (.nop, 0, 10, 0)] 180 [some (.ref (o0)), none, none, none, none, none, none, none, some (.int (x8 + 1)), some (.int (x9)), none] [] (q_wI w (o0 + 3) (Int32.toNatClampNeg x8) (w.1 (o0 + 2) (Int32.toNatClampNeg ((-1) - x10)))) [q_id 116 5 o0, q_id 116 5 o0, q_id 116 14 (o0 + 2), vp_in ((-1) - x10) (q_sh (o0 + 2)).2, q_id 116 14 (o0 + 3), vp_in x8 (q_sh (o0 + 3)).2] (by decide +kernel) (by refine qt_aload_n (r := o0) rfl ?_; refine qt_getR (r := o0 + 3) rfl rfl rfl ?_; refine qt_iload (x := x8) rfl ?_; refine qt_aload_n (r := o0) rfl ?_; refine qt_getR (r := o0 + 2) rfl rfl rfl ?_; refine qt_iconst qc_m1 ?_; refine qt_iload (x := x10) rfl ?_; refine qt_isub ?_; refine qt_iald ?_; refine qt_iast ?_; refine qt_iinc (x := x8) (L' := [some (.ref (o0)), none, none, none, none, none, none, none, some (.int (x8 + 1)), some (.int (x9)), some (.int (x10))]) rfl qc_1 rfl ?_; refine qt_goto ?_; refine qt_nop (L' := [some (.ref (o0)), none, none, none, none, none, none, none, some (.int (x8 + 1)), some (.int (x9)), none]) rfl ?_; exact qt_z rfl rfl rfl rfl rfl) ⟨ho45, ho46, ho47, ho48, ho49, ho50⟩ ?_
      exact h
theorem xX5_growth_180 {d : Nat} {o0 : Nat} {x8 : Int32} {x9 : Int32} {w : q_Sm} {Q : s_Po} {X : s_Xo} (h : vX5_growth_180 d o0 x8 x9 w Q X) : s_Ex (d + 1) 0 mX5_growth 180 [some (.ref (o0)), none, none, none, none, none, none, none, some (.int (x8)), some (.int (x9)), none] [] w Q X := by
  unfold vX5_growth_180 at h
  refine s_blk [(.iinc 9 1, 3, 0, 0), (.goto (-123), 3, 60, 0)] 60 [some (.ref (o0)), none, none, none, none, none, none, none, some (.int (x8)), some (.int (x9 + 1)), none] [] w [] (by decide +kernel) (by refine qt_iinc (x := x9) (L' := [some (.ref (o0)), none, none, none, none, none, none, none, some (.int (x8)), some (.int (x9 + 1)), none]) rfl qc_1 rfl ?_; refine qt_goto ?_; exact qt_z rfl rfl rfl rfl rfl) trivial ?_
  exact h
theorem xX5_growth_141 {d : Nat} {o0 : Nat} {x8 : Int32} {x9 : Int32} {x10 : Int32} {w : q_Sm} {Q : s_Po} {X : s_Xo} (h : vX5_growth_141 d o0 x8 x9 x10 w Q X) : s_Ex (d + 1) 0 mX5_growth 141 [some (.ref (o0)), none, none, none, none, none, none, none, some (.int (x8)), some (.int (x9)), some (.int (x10))] [] w Q X := by
  unfold vX5_growth_141 at h
  refine s_blk [(.iload 8, 2, 0, 0), (.iconst 2, 1, 0, 0)] 144 [some (.ref (o0)), none, none, none, none, none, none, none, some (.int (x8)), some (.int (x9)), some (.int (x10))] [.int (2), .int (x8)] w [] (by decide +kernel) (by refine qt_iload (x := x8) rfl ?_; refine qt_iconst qc_2 ?_; exact qt_z rfl rfl rfl rfl rfl) trivial ?_
  refine s_icmp (cd := .lt) (off := 36) 180 (by decide +kernel) (by decide) (fun hc => ?_) (fun hc => ?_)
  · replace h := h.1 hc
    refine s_blk [(.nop, 0, 10, 0)] 180 [some (.ref (o0)), none, none, none, none, none, none, none, some (.int (x8)), some (.int (x9)), none] [] w [] (by decide +kernel) (by refine qt_nop (L' := [some (.ref (o0)), none, none, none, none, none, none, none, some (.int (x8)), some (.int (x9)), none]) rfl ?_; exact qt_z rfl rfl rfl rfl rfl) trivial ?_
    exact h
  · replace h := h.2 hc
    obtain ⟨ho56, h⟩ := h
    obtain ⟨ho57, h⟩ := h
    obtain ⟨ho58, h⟩ := h
    obtain ⟨ho59, h⟩ := h
    obtain ⟨ho60, h⟩ := h
    obtain ⟨ho61, h⟩ := h
    obtain ⟨ho62, h⟩ := h
    refine s_blk [(.iinc 8 (-1), 3, 0, 0), (.aload_n 0, 1, 0, 0), (.getfield 18, 3, 5, 3), (.iload 8, 2, 0, 0), (.iconst 1, 1, 0, 0), (.isub, 1, 0, 0), (.iload 10, 2, 0, 0), (.aload_n 0, 1, 0, 0), (.getfield 18, 3, 5, 3), (.iload 8, 2, 0, 0), (.iconst 1, 1, 0, 0), (.isub, 1, 0, 0), (.iaload, 1, 0, 0), (.aload_n 0, 1, 0, 0), (.getfield 18, 3, 5, 3), (.iload 8, 2, 0, 0), (.iaload, 1, 0, 0)] 176 [some (.ref (o0)), none, none, none, none, none, none, none, some (.int (x8 + (-1))), some (.int (x9)), some (.int (x10))] [.int (w.1 (o0 + 3) (Int32.toNatClampNeg (x8 + (-1)))), .int (w.1 (o0 + 3) (Int32.toNatClampNeg ((x8 + (-1)) - 1))), .int (x10), .int ((x8 + (-1)) - 1), .ref (o0 + 3)] w [q_id 116 5 o0, q_id 116 5 o0, q_id 116 14 (o0 + 3), vp_in ((x8 + (-1)) - 1) (q_sh (o0 + 3)).2, q_id 116 5 o0, q_id 116 14 (o0 + 3), vp_in (x8 + (-1)) (q_sh (o0 + 3)).2] (by decide +kernel) (by refine qt_iinc (x := x8) (L' := [some (.ref (o0)), none, none, none, none, none, none, none, some (.int (x8 + (-1))), some (.int (x9)), some (.int (x10))]) rfl qc_m1 rfl ?_; refine qt_aload_n (r := o0) rfl ?_; refine qt_getR (r := o0 + 3) rfl rfl rfl ?_; refine qt_iload (x := x8 + (-1)) rfl ?_; refine qt_iconst qc_1 ?_; refine qt_isub ?_; refine qt_iload (x := x10) rfl ?_; refine qt_aload_n (r := o0) rfl ?_; refine qt_getR (r := o0 + 3) rfl rfl rfl ?_; refine qt_iload (x := x8 + (-1)) rfl ?_; refine qt_iconst qc_1 ?_; refine qt_isub ?_; refine qt_iald ?_; refine qt_aload_n (r := o0) rfl ?_; refine qt_getR (r := o0 + 3) rfl rfl rfl ?_; refine qt_iload (x := x8 + (-1)) rfl ?_; refine qt_iald ?_; exact qt_z rfl rfl rfl rfl rfl) ⟨ho56, ho57, ho58, ho59, ho60, ho61, ho62⟩ ?_
    refine s_callS (a := 0) (a' := 0) (As := [.int (x10), .int (w.1 (o0 + 3) (Int32.toNatClampNeg ((x8 + (-1)) - 1))), .int (w.1 (o0 + 3) (Int32.toNatClampNeg (x8 + (-1))))]) (st := [.int ((x8 + (-1)) - 1), .ref (o0 + 3)]) kX5_joined l_5_111 (by decide +kernel) rfl (Nat.le_of_ble_eq_true rfl) (s_mono h (s_I_of (fun v51 u52 h => ?_)) (fun _ _ h9 => h9))
    show s_Ex (d + 1) 0 mX5_growth 179 [some (.ref (o0)), none, none, none, none, none, none, none, some (.int (x8 + (-1))), some (.int (x9)), some (.int (x10))] [.int (v51), .int ((x8 + (-1)) - 1), .ref (o0 + 3)] u52 Q X
    obtain ⟨ho54, h⟩ := h
    obtain ⟨ho55, h⟩ := h
    replace h := h _ rfl
    refine s_blk [(.iastore, 1, 0, 0), (.nop, 0, 10, 0)] 180 [some (.ref (o0)), none, none, none, none, none, none, none, some (.int (x8 + (-1))), some (.int (x9)), none] [] (q_wI u52 (o0 + 3) (Int32.toNatClampNeg ((x8 + (-1)) - 1)) v51) [q_id 116 14 (o0 + 3), vp_in ((x8 + (-1)) - 1) (q_sh (o0 + 3)).2] (by decide +kernel) (by refine qt_iast ?_; refine qt_nop (L' := [some (.ref (o0)), none, none, none, none, none, none, none, some (.int (x8 + (-1))), some (.int (x9)), none]) rfl ?_; exact qt_z rfl rfl rfl rfl rfl) ⟨ho54, ho55⟩ ?_
    exact h
theorem eX5_growth {d : Nat} {o0 : Nat} {x1 : Int32} {x2 : Int32} {x3 : Int32} {x4 : Int32} {x5 : Int32} {x6 : Int32} {x7 : Int32} {w : q_Sm} {Q : s_Po} {X : s_Xo} (h : vX5_growth_0 d o0 x1 x2 x3 x4 x5 x6 x7 w Q X) : s_Ev (d + 1) 0 mX5_growth w [.ref (o0), .int (x1), .int (x2), .int (x3), .int (x4), .int (x5), .int (x6), .int (x7)] Q X := s_of (by decide +kernel) rfl (Nat.le_of_ble_eq_true rfl) (xX5_growth_0 h)
def vX5_joined_0 (d : Nat) (x0 : Int32) (x1 : Int32) (x2 : Int32) (w : q_Sm) (Q : s_Po) (X : s_Xo) : Prop := (((Int32.toInt x0) < -12 ∨ -8 < (Int32.toInt x0)) → ((x1 ≤ x2) → Q (some (.int (x2))) w) ∧ (¬ (x1 ≤ x2) → Q (some (.int (x1))) w)) ∧ ((Int32.toInt x0) = -12 → ((x2 ≤ x1) → Q (some (.int (x2))) w) ∧ (¬ (x2 ≤ x1) → Q (some (.int (x1))) w)) ∧ ((Int32.toInt x0) = -11 → ((¬ x2 = 0) → (¬ x2 = 0) ∧ Q (some (.int (x1 / x2))) w) ∧ (¬ (¬ x2 = 0) → Q (some (.int (0))) w)) ∧ ((Int32.toInt x0) = -10 → Q (some (.int (x1 * x2))) w) ∧ ((Int32.toInt x0) = -9 → Q (some (.int (x1 - x2))) w) ∧ ((Int32.toInt x0) = -8 → Q (some (.int (x1 + x2))) w)
theorem xX5_joined_0 {d : Nat} {x0 : Int32} {x1 : Int32} {x2 : Int32} {w : q_Sm} {Q : s_Po} {X : s_Xo} (h : vX5_joined_0 d x0 x1 x2 w Q X) : s_Ex (d + 1) 0 mX5_joined 0 [some (.int (x0)), some (.int (x1)), some (.int (x2))] [] w Q X := by
  unfold vX5_joined_0 at h
  refine s_blk [(.iload_n 0, 1, 0, 0)] 1 [some (.int (x0)), some (.int (x1)), some (.int (x2))] [.int (x0)] w [] (by decide +kernel) (by refine qt_iload_n (x := x0) rfl ?_; exact qt_z rfl rfl rfl rfl rfl) trivial ?_
  refine s_tsw (dflt := 70) (lo := -12) (hi := -8) (offs := #[59, 47, 43, 39, 35]) (len := 35) 71 [60, 48, 44, 40, 36] (by decide +kernel) (by decide) (by decide) (by decide) (fun hc => ?_) (fun j q hj hx => ?_)
  · replace h := h.1 hc
    refine s_blk [(.iload_n 1, 1, 0, 0), (.iload_n 2, 1, 0, 0)] 73 [some (.int (x0)), some (.int (x1)), some (.int (x2))] [.int (x2), .int (x1)] w [] (by decide +kernel) (by refine qt_iload_n (x := x1) rfl ?_; refine qt_iload_n (x := x2) rfl ?_; exact qt_z rfl rfl rfl rfl rfl) trivial ?_
    refine s_icmp (cd := .le) (off := 7) 80 (by decide +kernel) (by decide) (fun hc => ?_) (fun hc => ?_)
    · replace h := h.1 hc
      refine s_blk [(.iload_n 2, 1, 0, 0)] 81 [some (.int (x0)), some (.int (x1)), some (.int (x2))] [.int (x2)] w [] (by decide +kernel) (by refine qt_iload_n (x := x2) rfl ?_; exact qt_z rfl rfl rfl rfl rfl) trivial ?_
      exact s_retI .int (by decide +kernel) rfl rfl h
    · replace h := h.2 hc
      refine s_blk [(.iload_n 1, 1, 0, 0), (.goto 4, 3, 81, 0)] 81 [some (.int (x0)), some (.int (x1)), some (.int (x2))] [.int (x1)] w [] (by decide +kernel) (by refine qt_iload_n (x := x1) rfl ?_; refine qt_goto ?_; exact qt_z rfl rfl rfl rfl rfl) trivial ?_
      exact s_retI .int (by decide +kernel) rfl rfl h
  · rcases j with _ | _ | _ | _ | _ | j
    · cases hj
      replace h := h.2.1 (by omega)
      refine s_blk [(.iload_n 1, 1, 0, 0), (.iload_n 2, 1, 0, 0)] 62 [some (.int (x0)), some (.int (x1)), some (.int (x2))] [.int (x2), .int (x1)] w [] (by decide +kernel) (by refine qt_iload_n (x := x1) rfl ?_; refine qt_iload_n (x := x2) rfl ?_; exact qt_z rfl rfl rfl rfl rfl) trivial ?_
      refine s_icmp (cd := .ge) (off := 7) 69 (by decide +kernel) (by decide) (fun hc => ?_) (fun hc => ?_)
      · replace h := h.1 hc
        refine s_blk [(.iload_n 2, 1, 0, 0)] 70 [some (.int (x0)), some (.int (x1)), some (.int (x2))] [.int (x2)] w [] (by decide +kernel) (by refine qt_iload_n (x := x2) rfl ?_; exact qt_z rfl rfl rfl rfl rfl) trivial ?_
        exact s_retI .int (by decide +kernel) rfl rfl h
      · replace h := h.2 hc
        refine s_blk [(.iload_n 1, 1, 0, 0), (.goto 4, 3, 70, 0)] 70 [some (.int (x0)), some (.int (x1)), some (.int (x2))] [.int (x1)] w [] (by decide +kernel) (by refine qt_iload_n (x := x1) rfl ?_; refine qt_goto ?_; exact qt_z rfl rfl rfl rfl rfl) trivial ?_
        exact s_retI .int (by decide +kernel) rfl rfl h
    · cases hj
      replace h := h.2.2.1 (by omega)
      refine s_blk [(.iload_n 2, 1, 0, 0)] 49 [some (.int (x0)), some (.int (x1)), some (.int (x2))] [.int (x2)] w [] (by decide +kernel) (by refine qt_iload_n (x := x2) rfl ?_; exact qt_z rfl rfl rfl rfl rfl) trivial ?_
      refine s_if (cd := .ne) (off := 7) 56 (by decide +kernel) (by decide) (fun hc => ?_) (fun hc => ?_)
      · replace h := h.1 hc
        obtain ⟨ho1, h⟩ := h
        refine s_blk [(.iload_n 1, 1, 0, 0), (.iload_n 2, 1, 0, 0), (.idiv, 1, 0, 0)] 59 [some (.int (x0)), some (.int (x1)), some (.int (x2))] [.int (x1 / x2)] w [¬ x2 = 0] (by decide +kernel) (by refine qt_iload_n (x := x1) rfl ?_; refine qt_iload_n (x := x2) rfl ?_; refine qt_idiv ?_; exact qt_z rfl rfl rfl rfl rfl) ho1 ?_
        exact s_retI .int (by decide +kernel) rfl rfl h
      · replace h := h.2 hc
        refine s_blk [(.iconst 0, 1, 0, 0), (.goto 6, 3, 59, 0)] 59 [some (.int (x0)), some (.int (x1)), some (.int (x2))] [.int (0)] w [] (by decide +kernel) (by refine qt_iconst qc_0 ?_; refine qt_goto ?_; exact qt_z rfl rfl rfl rfl rfl) trivial ?_
        exact s_retI .int (by decide +kernel) rfl rfl h
    · cases hj
      replace h := h.2.2.2.1 (by omega)
      refine s_blk [(.iload_n 1, 1, 0, 0), (.iload_n 2, 1, 0, 0), (.imul, 1, 0, 0)] 47 [some (.int (x0)), some (.int (x1)), some (.int (x2))] [.int (x1 * x2)] w [] (by decide +kernel) (by refine qt_iload_n (x := x1) rfl ?_; refine qt_iload_n (x := x2) rfl ?_; refine qt_imul ?_; exact qt_z rfl rfl rfl rfl rfl) trivial ?_
      exact s_retI .int (by decide +kernel) rfl rfl h
    · cases hj
      replace h := h.2.2.2.2.1 (by omega)
      refine s_blk [(.iload_n 1, 1, 0, 0), (.iload_n 2, 1, 0, 0), (.isub, 1, 0, 0)] 43 [some (.int (x0)), some (.int (x1)), some (.int (x2))] [.int (x1 - x2)] w [] (by decide +kernel) (by refine qt_iload_n (x := x1) rfl ?_; refine qt_iload_n (x := x2) rfl ?_; refine qt_isub ?_; exact qt_z rfl rfl rfl rfl rfl) trivial ?_
      exact s_retI .int (by decide +kernel) rfl rfl h
    · cases hj
      replace h := h.2.2.2.2.2 (by omega)
      refine s_blk [(.iload_n 1, 1, 0, 0), (.iload_n 2, 1, 0, 0), (.iadd, 1, 0, 0)] 39 [some (.int (x0)), some (.int (x1)), some (.int (x2))] [.int (x1 + x2)] w [] (by decide +kernel) (by refine qt_iload_n (x := x1) rfl ?_; refine qt_iload_n (x := x2) rfl ?_; refine qt_iadd ?_; exact qt_z rfl rfl rfl rfl rfl) trivial ?_
      exact s_retI .int (by decide +kernel) rfl rfl h
    · simp at hj
theorem eX5_joined {d : Nat} {x0 : Int32} {x1 : Int32} {x2 : Int32} {w : q_Sm} {Q : s_Po} {X : s_Xo} (h : vX5_joined_0 d x0 x1 x2 w Q X) : s_Ev (d + 1) 0 mX5_joined w [.int (x0), .int (x1), .int (x2)] Q X := s_of (by decide +kernel) rfl (Nat.le_of_ble_eq_true rfl) (xX5_joined_0 h)
def vX1_clear_0 (d : Nat) (o0 : Nat) (w : q_Sm) (Q : s_Po) (X : s_Xo) : Prop := (q_id 116 1 o0) ∧ ∀ w_1 : q_Sm, w_1 = q_wI w o0 0 0 → Q none w_1
theorem xX1_clear_0 {d : Nat} {o0 : Nat} {w : q_Sm} {Q : s_Po} {X : s_Xo} (h : vX1_clear_0 d o0 w Q X) : s_Ex (d + 1) 0 mX1_clear 0 [some (.ref (o0))] [] w Q X := by
  unfold vX1_clear_0 at h
  obtain ⟨ho2, h⟩ := h
  replace h := h _ rfl
  refine s_blk [(.aload_n 0, 1, 0, 0), (.iconst 0, 1, 0, 0), (.putfield 21, 3, 1, 0)] 5 [some (.ref (o0))] [] (q_wI w o0 0 0) [q_id 116 1 o0] (by decide +kernel) (by refine qt_aload_n (r := o0) rfl ?_; refine qt_iconst qc_0 ?_; refine qt_putI rfl ?_; exact qt_z rfl rfl rfl rfl rfl) ho2 ?_
  exact s_retV (by decide +kernel) rfl h
theorem eX1_clear {d : Nat} {o0 : Nat} {w : q_Sm} {Q : s_Po} {X : s_Xo} (h : vX1_clear_0 d o0 w Q X) : s_Ev (d + 1) 0 mX1_clear w [.ref (o0)] Q X := s_of (by decide +kernel) rfl (Nat.le_of_ble_eq_true rfl) (xX1_clear_0 h)
def vX1_read_0 (d : Nat) (o0 : Nat) (w : q_Sm) (Q : s_Po) (X : s_Xo) : Prop := q_id 116 1 o0 ∧ s_EvV d 0 mX1_clear w [.ref (o0)] (fun u2 => s_Ex (d + 1) 0 mX1_read 6 [some (.ref (o0)), some (.ref (2)), some (.int (0))] [] u2 Q X) X
def vX1_read_6 (d : Nat) (o0 : Nat) (x2 : Int32) (w : q_Sm) (Q : s_Po) (X : s_Xo) : Prop := ((10 < x2) → Q none w) ∧ (¬ (10 < x2) → s_EvI d 0 mX10_goesOn w [.ref (2)] (fun v3 u4 => ((v3 = 0) → Q none u4) ∧ (¬ (v3 = 0) → q_id 116 1 o0 ∧ s_EvV d 0 mX1_readLine u4 [.ref (o0), .ref (2)] (fun u6 => s_EvV d 0 mX10_need u6 [.ref (2), .int (59)] (fun u8 => s_Ex (d + 1) 0 mX1_read 6 [some (.ref (o0)), some (.ref (2)), some (.int (x2 + 1))] [] u8 Q X) X) X)) X)
theorem xX1_read_0 {d : Nat} {o0 : Nat} {w : q_Sm} {Q : s_Po} {X : s_Xo} (h : vX1_read_0 d o0 w Q X) : s_Ex (d + 1) 0 mX1_read 0 [some (.ref (o0)), some (.ref (2)), none] [] w Q X := by
  unfold vX1_read_0 at h
  refine s_blk [(.aload_n 0, 1, 0, 0)] 1 [some (.ref (o0)), some (.ref (2)), none] [.ref (o0)] w [] (by decide +kernel) (by refine qt_aload_n (r := o0) rfl ?_; exact qt_z rfl rfl rfl rfl rfl) trivial ?_
  obtain ⟨hid, h⟩ := h
  refine s_callV (a := 0) (a' := 0) (As := []) (id := o0) (st := []) kX1_clear l_1_25 (by decide +kernel) hid rfl (Nat.le_of_ble_eq_true rfl) (s_mono h (s_V_of (fun u2 h => ?_)) (fun _ _ h9 => h9))
  show s_Ex (d + 1) 0 mX1_read 4 [some (.ref (o0)), some (.ref (2)), none] [] u2 Q X
  refine s_blk [(.iconst 0, 1, 0, 0), (.istore_n 2, 1, 0, 0)] 6 [some (.ref (o0)), some (.ref (2)), some (.int (0))] [] u2 [] (by decide +kernel) (by refine qt_iconst qc_0 ?_; refine qt_istore_n (L' := [some (.ref (o0)), some (.ref (2)), some (.int (0))]) rfl ?_; exact qt_z rfl rfl rfl rfl rfl) trivial ?_
  exact h
theorem xX1_read_6 {d : Nat} {o0 : Nat} {x2 : Int32} {w : q_Sm} {Q : s_Po} {X : s_Xo} (h : vX1_read_6 d o0 x2 w Q X) : s_Ex (d + 1) 0 mX1_read 6 [some (.ref (o0)), some (.ref (2)), some (.int (x2))] [] w Q X := by
  unfold vX1_read_6 at h
  refine s_blk [(.iload_n 2, 1, 0, 0), (.bipush 10, 2, 0, 0)] 9 [some (.ref (o0)), some (.ref (2)), some (.int (x2))] [.int (10), .int (x2)] w [] (by decide +kernel) (by refine qt_iload_n (x := x2) rfl ?_; refine qt_bipush qb_10 ?_; exact qt_z rfl rfl rfl rfl rfl) trivial ?_
  refine s_icmp (cd := .gt) (off := 27) 36 (by decide +kernel) (by decide) (fun hc => ?_) (fun hc => ?_)
  · replace h := h.1 hc
    exact s_retV (by decide +kernel) rfl h
  · replace h := h.2 hc
    refine s_blk [(.aload_n 1, 1, 0, 0)] 13 [some (.ref (o0)), some (.ref (2)), some (.int (x2))] [.ref (2)] w [] (by decide +kernel) (by refine qt_aload_n (r := 2) rfl ?_; exact qt_z rfl rfl rfl rfl rfl) trivial ?_
    refine s_callV (a := 0) (a' := 0) (As := []) (id := 2) (st := []) kX10_goesOn l_1_28 (by decide +kernel) (q_id_of rfl) rfl (Nat.le_of_ble_eq_true rfl) (s_mono h (s_I_of (fun v3 u4 h => ?_)) (fun _ _ h9 => h9))
    show s_Ex (d + 1) 0 mX1_read 16 [some (.ref (o0)), some (.ref (2)), some (.int (x2))] [.int (v3)] u4 Q X
    refine s_if (cd := .eq) (off := 20) 36 (by decide +kernel) (by decide) (fun hc => ?_) (fun hc => ?_)
    · replace h := h.1 hc
      exact s_retV (by decide +kernel) rfl h
    · replace h := h.2 hc
      refine s_blk [(.aload_n 0, 1, 0, 0), (.aload_n 1, 1, 0, 0)] 21 [some (.ref (o0)), some (.ref (2)), some (.int (x2))] [.ref (2), .ref (o0)] u4 [] (by decide +kernel) (by refine qt_aload_n (r := o0) rfl ?_; refine qt_aload_n (r := 2) rfl ?_; exact qt_z rfl rfl rfl rfl rfl) trivial ?_
      obtain ⟨hid, h⟩ := h
      refine s_callV (a := 0) (a' := 0) (As := [.ref (2)]) (id := o0) (st := []) kX1_readLine l_1_34 (by decide +kernel) hid rfl (Nat.le_of_ble_eq_true rfl) (s_mono h (s_V_of (fun u6 h => ?_)) (fun _ _ h9 => h9))
      show s_Ex (d + 1) 0 mX1_read 24 [some (.ref (o0)), some (.ref (2)), some (.int (x2))] [] u6 Q X
      refine s_blk [(.aload_n 1, 1, 0, 0), (.bipush 59, 2, 0, 0)] 27 [some (.ref (o0)), some (.ref (2)), some (.int (x2))] [.int (59), .ref (2)] u6 [] (by decide +kernel) (by refine qt_aload_n (r := 2) rfl ?_; refine qt_bipush qb_59 ?_; exact qt_z rfl rfl rfl rfl rfl) trivial ?_
      refine s_callV (a := 0) (a' := 0) (As := [.int (59)]) (id := 2) (st := []) kX10_need l_1_38 (by decide +kernel) (q_id_of rfl) rfl (Nat.le_of_ble_eq_true rfl) (s_mono h (s_V_of (fun u8 h => ?_)) (fun _ _ h9 => h9))
      show s_Ex (d + 1) 0 mX1_read 30 [some (.ref (o0)), some (.ref (2)), some (.int (x2))] [] u8 Q X
      refine s_blk [(.iinc 2 1, 3, 0, 0), (.goto (-27), 3, 6, 0)] 6 [some (.ref (o0)), some (.ref (2)), some (.int (x2 + 1))] [] u8 [] (by decide +kernel) (by refine qt_iinc (x := x2) (L' := [some (.ref (o0)), some (.ref (2)), some (.int (x2 + 1))]) rfl qc_1 rfl ?_; refine qt_goto ?_; exact qt_z rfl rfl rfl rfl rfl) trivial ?_
      exact h
theorem eX1_read {d : Nat} {o0 : Nat} {w : q_Sm} {Q : s_Po} {X : s_Xo} (h : vX1_read_0 d o0 w Q X) : s_Ev (d + 1) 0 mX1_read w [.ref (o0), .ref (2)] Q X := s_of (by decide +kernel) rfl (Nat.le_of_ble_eq_true rfl) (xX1_read_0 h)
def vX1_readLine_0 (d : Nat) (o0 : Nat) (w : q_Sm) (Q : s_Po) (X : s_Xo) : Prop := s_EvI d 0 mX10_number w [.ref (2), .int (0), .int (60)] (fun v1 u2 => (q_id 116 1 o0) ∧ (((u2.1 o0 0) < 10) → s_Ex (d + 1) 0 mX1_readLine 26 [some (.ref (o0)), some (.ref (2)), some (.int (v1)), none, none] [] u2 Q X) ∧ (¬ ((u2.1 o0 0) < 10) → s_EvI d 0 mX10_startOfLast u2 [.ref (2)] (fun v3 u4 => s_EvV d 0 mX10_blame u4 [.ref (2), .int (3), .int (v3)] (fun u6 => s_Ex (d + 1) 0 mX1_readLine 26 [some (.ref (o0)), some (.ref (2)), some (.int (v1)), none, none] [] u6 Q X) X) X)) X
def vX1_readLine_26 (d : Nat) (o0 : Nat) (x2 : Int32) (w : q_Sm) (Q : s_Po) (X : s_Xo) : Prop := s_EvI d 0 mX10_colour w [.ref (2)] (fun v8 u9 => s_EvI d 0 mX10_number u9 [.ref (2), .int (0), .int (40)] (fun v10 u11 => s_EvI d 0 mX10_failed u11 [.ref (2)] (fun v12 u13 => ((¬ v12 = 0) → Q none u13) ∧ (¬ (¬ v12 = 0) → (q_id 116 1 o0) ∧ ((10 ≤ (u13.1 o0 0)) → Q none u13) ∧ (¬ (10 ≤ (u13.1 o0 0)) → (q_id 116 1 o0) ∧ (q_id 116 1 o0) ∧ (q_id 116 14 (o0 + 1)) ∧ (vp_in (u13.1 o0 0) (q_sh (o0 + 1)).2) ∧ ∀ w_14 : q_Sm, w_14 = q_wI u13 (o0 + 1) (Int32.toNatClampNeg (u13.1 o0 0)) x2 → (q_id 116 1 o0) ∧ (q_id 116 1 o0) ∧ (q_id 116 14 (o0 + 2)) ∧ (vp_in (w_14.1 o0 0) (q_sh (o0 + 2)).2) ∧ ∀ w_15 : q_Sm, w_15 = q_wI w_14 (o0 + 2) (Int32.toNatClampNeg (w_14.1 o0 0)) v8 → (q_id 116 1 o0) ∧ (q_id 116 1 o0) ∧ (q_id 116 14 (o0 + 3)) ∧ (vp_in (w_15.1 o0 0) (q_sh (o0 + 3)).2) ∧ ∀ w_16 : q_Sm, w_16 = q_wI w_15 (o0 + 3) (Int32.toNatClampNeg (w_15.1 o0 0)) v10 → (q_id 116 1 o0) ∧ (q_id 116 1 o0) ∧ ∀ w_17 : q_Sm, w_17 = q_wI w_16 o0 0 ((w_16.1 o0 0) + 1) → Q none w_17))) X) X) X
theorem xX1_readLine_0 {d : Nat} {o0 : Nat} {w : q_Sm} {Q : s_Po} {X : s_Xo} (h : vX1_readLine_0 d o0 w Q X) : s_Ex (d + 1) 0 mX1_readLine 0 [some (.ref (o0)), some (.ref (2)), none, none, none] [] w Q X := by
  unfold vX1_readLine_0 at h
  refine s_blk [(.aload_n 1, 1, 0, 0), (.iconst 0, 1, 0, 0), (.bipush 60, 2, 0, 0)] 4 [some (.ref (o0)), some (.ref (2)), none, none, none] [.int (60), .int (0), .ref (2)] w [] (by decide +kernel) (by refine qt_aload_n (r := 2) rfl ?_; refine qt_iconst qc_0 ?_; refine qt_bipush qb_60 ?_; exact qt_z rfl rfl rfl rfl rfl) trivial ?_
  refine s_callV (a := 0) (a' := 0) (As := [.int (0), .int (60)]) (id := 2) (st := []) kX10_number l_1_42 (by decide +kernel) (q_id_of rfl) rfl (Nat.le_of_ble_eq_true rfl) (s_mono h (s_I_of (fun v1 u2 h => ?_)) (fun _ _ h9 => h9))
  show s_Ex (d + 1) 0 mX1_readLine 7 [some (.ref (o0)), some (.ref (2)), none, none, none] [.int (v1)] u2 Q X
  obtain ⟨ho7, h⟩ := h
  refine s_blk [(.istore_n 2, 1, 0, 0), (.aload_n 0, 1, 0, 0), (.getfield 21, 3, 1, 0), (.bipush 10, 2, 0, 0)] 14 [some (.ref (o0)), some (.ref (2)), some (.int (v1)), none, none] [.int (10), .int (u2.1 o0 0)] u2 [q_id 116 1 o0] (by decide +kernel) (by refine qt_istore_n (L' := [some (.ref (o0)), some (.ref (2)), some (.int (v1)), none, none]) rfl ?_; refine qt_aload_n (r := o0) rfl ?_; refine qt_getI rfl rfl ?_; refine qt_bipush qb_10 ?_; exact qt_z rfl rfl rfl rfl rfl) ho7 ?_
  refine s_icmp (cd := .lt) (off := 12) 26 (by decide +kernel) (by decide) (fun hc => ?_) (fun hc => ?_)
  · replace h := h.1 hc
    exact h
  · replace h := h.2 hc
    refine s_blk [(.aload_n 1, 1, 0, 0), (.iconst 3, 1, 0, 0), (.aload_n 1, 1, 0, 0)] 20 [some (.ref (o0)), some (.ref (2)), some (.int (v1)), none, none] [.ref (2), .int (3), .ref (2)] u2 [] (by decide +kernel) (by refine qt_aload_n (r := 2) rfl ?_; refine qt_iconst qc_3 ?_; refine qt_aload_n (r := 2) rfl ?_; exact qt_z rfl rfl rfl rfl rfl) trivial ?_
    refine s_callV (a := 0) (a' := 0) (As := []) (id := 2) (st := [.int (3), .ref (2)]) kX10_startOfLast l_1_46 (by decide +kernel) (q_id_of rfl) rfl (Nat.le_of_ble_eq_true rfl) (s_mono h (s_I_of (fun v3 u4 h => ?_)) (fun _ _ h9 => h9))
    show s_Ex (d + 1) 0 mX1_readLine 23 [some (.ref (o0)), some (.ref (2)), some (.int (v1)), none, none] [.int (v3), .int (3), .ref (2)] u4 Q X
    refine s_callV (a := 0) (a' := 0) (As := [.int (3), .int (v3)]) (id := 2) (st := []) kX10_blame l_1_50 (by decide +kernel) (q_id_of rfl) rfl (Nat.le_of_ble_eq_true rfl) (s_mono h (s_V_of (fun u6 h => ?_)) (fun _ _ h9 => h9))
    show s_Ex (d + 1) 0 mX1_readLine 26 [some (.ref (o0)), some (.ref (2)), some (.int (v1)), none, none] [] u6 Q X
    exact h
theorem xX1_readLine_26 {d : Nat} {o0 : Nat} {x2 : Int32} {w : q_Sm} {Q : s_Po} {X : s_Xo} (h : vX1_readLine_26 d o0 x2 w Q X) : s_Ex (d + 1) 0 mX1_readLine 26 [some (.ref (o0)), some (.ref (2)), some (.int (x2)), none, none] [] w Q X := by
  unfold vX1_readLine_26 at h
  refine s_blk [(.aload_n 1, 1, 0, 0)] 27 [some (.ref (o0)), some (.ref (2)), some (.int (x2)), none, none] [.ref (2)] w [] (by decide +kernel) (by refine qt_aload_n (r := 2) rfl ?_; exact qt_z rfl rfl rfl rfl rfl) trivial ?_
  refine s_callV (a := 0) (a' := 0) (As := []) (id := 2) (st := []) kX10_colour l_1_54 (by decide +kernel) (q_id_of rfl) rfl (Nat.le_of_ble_eq_true rfl) (s_mono h (s_I_of (fun v8 u9 h => ?_)) (fun _ _ h9 => h9))
  show s_Ex (d + 1) 0 mX1_readLine 30 [some (.ref (o0)), some (.ref (2)), some (.int (x2)), none, none] [.int (v8)] u9 Q X
  refine s_blk [(.istore_n 3, 1, 0, 0), (.aload_n 1, 1, 0, 0), (.iconst 0, 1, 0, 0), (.bipush 40, 2, 0, 0)] 35 [some (.ref (o0)), some (.ref (2)), some (.int (x2)), some (.int (v8)), none] [.int (40), .int (0), .ref (2)] u9 [] (by decide +kernel) (by refine qt_istore_n (L' := [some (.ref (o0)), some (.ref (2)), some (.int (x2)), some (.int (v8)), none]) rfl ?_; refine qt_aload_n (r := 2) rfl ?_; refine qt_iconst qc_0 ?_; refine qt_bipush qb_40 ?_; exact qt_z rfl rfl rfl rfl rfl) trivial ?_
  refine s_callV (a := 0) (a' := 0) (As := [.int (0), .int (40)]) (id := 2) (st := []) kX10_number l_1_42 (by decide +kernel) (q_id_of rfl) rfl (Nat.le_of_ble_eq_true rfl) (s_mono h (s_I_of (fun v10 u11 h => ?_)) (fun _ _ h9 => h9))
  show s_Ex (d + 1) 0 mX1_readLine 38 [some (.ref (o0)), some (.ref (2)), some (.int (x2)), some (.int (v8)), none] [.int (v10)] u11 Q X
  refine s_blk [(.istore 4, 2, 0, 0), (.aload_n 1, 1, 0, 0)] 41 [some (.ref (o0)), some (.ref (2)), some (.int (x2)), some (.int (v8)), some (.int (v10))] [.ref (2)] u11 [] (by decide +kernel) (by refine qt_istore (L' := [some (.ref (o0)), some (.ref (2)), some (.int (x2)), some (.int (v8)), some (.int (v10))]) rfl ?_; refine qt_aload_n (r := 2) rfl ?_; exact qt_z rfl rfl rfl rfl rfl) trivial ?_
  refine s_callV (a := 0) (a' := 0) (As := []) (id := 2) (st := []) kX10_failed l_1_56 (by decide +kernel) (q_id_of rfl) rfl (Nat.le_of_ble_eq_true rfl) (s_mono h (s_I_of (fun v12 u13 h => ?_)) (fun _ _ h9 => h9))
  show s_Ex (d + 1) 0 mX1_readLine 44 [some (.ref (o0)), some (.ref (2)), some (.int (x2)), some (.int (v8)), some (.int (v10))] [.int (v12)] u13 Q X
  refine s_if (cd := .ne) (off := 53) 97 (by decide +kernel) (by decide) (fun hc => ?_) (fun hc => ?_)
  · replace h := h.1 hc
    exact s_retV (by decide +kernel) rfl h
  · replace h := h.2 hc
    obtain ⟨ho32, h⟩ := h
    refine s_blk [(.aload_n 0, 1, 0, 0), (.getfield 21, 3, 1, 0), (.bipush 10, 2, 0, 0)] 53 [some (.ref (o0)), some (.ref (2)), some (.int (x2)), some (.int (v8)), some (.int (v10))] [.int (10), .int (u13.1 o0 0)] u13 [q_id 116 1 o0] (by decide +kernel) (by refine qt_aload_n (r := o0) rfl ?_; refine qt_getI rfl rfl ?_; refine qt_bipush qb_10 ?_; exact qt_z rfl rfl rfl rfl rfl) ho32 ?_
    refine s_icmp (cd := .ge) (off := 44) 97 (by decide +kernel) (by decide) (fun hc => ?_) (fun hc => ?_)
    · replace h := h.1 hc
      exact s_retV (by decide +kernel) rfl h
    · replace h := h.2 hc
      obtain ⟨ho18, h⟩ := h
      obtain ⟨ho19, h⟩ := h
      obtain ⟨ho20, h⟩ := h
      obtain ⟨ho21, h⟩ := h
      replace h := h _ rfl
      obtain ⟨ho22, h⟩ := h
      obtain ⟨ho23, h⟩ := h
      obtain ⟨ho24, h⟩ := h
      obtain ⟨ho25, h⟩ := h
      replace h := h _ rfl
      obtain ⟨ho26, h⟩ := h
      obtain ⟨ho27, h⟩ := h
      obtain ⟨ho28, h⟩ := h
      obtain ⟨ho29, h⟩ := h
      replace h := h _ rfl
      obtain ⟨ho30, h⟩ := h
      obtain ⟨ho31, h⟩ := h
      replace h := h _ rfl
      refine s_blk [(.aload_n 0, 1, 0, 0), (.getfield 9, 3, 1, 1), (.aload_n 0, 1, 0, 0), (.getfield 21, 3, 1, 0), (.iload_n 2, 1, 0, 0), (.iastore, 1, 0, 0), (.aload_n 0, 1, 0, 0), (.getfield 15, 3, 1, 2), (.aload_n 0, 1, 0, 0), (.getfield 21, 3, 1, 0), (.iload_n 3, 1, 0, 0), (.iastore, 1, 0, 0), (.aload_n 0, 1, 0, 0), (.getfield 18, 3, 1, 3), (.aload_n 0, 1, 0, 0), (.getfield 21, 3, 1, 0), (.iload 4, 2, 0, 0), (.iastore, 1, 0, 0), (.aload_n 0, 1, 0, 0), (.dup, 1, 0, 0), (.getfield 21, 3, 1, 0), (.iconst 1, 1, 0, 0), (.iadd, 1, 0, 0), (.putfield 21, 3, 1, 0)] 97 [some (.ref (o0)), some (.ref (2)), some (.int (x2)), some (.int (v8)), some (.int (v10))] [] (q_wI (q_wI (q_wI (q_wI u13 (o0 + 1) (Int32.toNatClampNeg (u13.1 o0 0)) x2) (o0 + 2) (Int32.toNatClampNeg ((q_wI u13 (o0 + 1) (Int32.toNatClampNeg (u13.1 o0 0)) x2).1 o0 0)) v8) (o0 + 3) (Int32.toNatClampNeg ((q_wI (q_wI u13 (o0 + 1) (Int32.toNatClampNeg (u13.1 o0 0)) x2) (o0 + 2) (Int32.toNatClampNeg ((q_wI u13 (o0 + 1) (Int32.toNatClampNeg (u13.1 o0 0)) x2).1 o0 0)) v8).1 o0 0)) v10) o0 0 (((q_wI (q_wI (q_wI u13 (o0 + 1) (Int32.toNatClampNeg (u13.1 o0 0)) x2) (o0 + 2) (Int32.toNatClampNeg ((q_wI u13 (o0 + 1) (Int32.toNatClampNeg (u13.1 o0 0)) x2).1 o0 0)) v8) (o0 + 3) (Int32.toNatClampNeg ((q_wI (q_wI u13 (o0 + 1) (Int32.toNatClampNeg (u13.1 o0 0)) x2) (o0 + 2) (Int32.toNatClampNeg ((q_wI u13 (o0 + 1) (Int32.toNatClampNeg (u13.1 o0 0)) x2).1 o0 0)) v8).1 o0 0)) v10).1 o0 0) + 1)) [q_id 116 1 o0, q_id 116 1 o0, q_id 116 14 (o0 + 1), vp_in (u13.1 o0 0) (q_sh (o0 + 1)).2, q_id 116 1 o0, q_id 116 1 o0, q_id 116 14 (o0 + 2), vp_in ((q_wI u13 (o0 + 1) (Int32.toNatClampNeg (u13.1 o0 0)) x2).1 o0 0) (q_sh (o0 + 2)).2, q_id 116 1 o0, q_id 116 1 o0, q_id 116 14 (o0 + 3), vp_in ((q_wI (q_wI u13 (o0 + 1) (Int32.toNatClampNeg (u13.1 o0 0)) x2) (o0 + 2) (Int32.toNatClampNeg ((q_wI u13 (o0 + 1) (Int32.toNatClampNeg (u13.1 o0 0)) x2).1 o0 0)) v8).1 o0 0) (q_sh (o0 + 3)).2, q_id 116 1 o0, q_id 116 1 o0] (by decide +kernel) (by refine qt_aload_n (r := o0) rfl ?_; refine qt_getR (r := o0 + 1) rfl rfl rfl ?_; refine qt_aload_n (r := o0) rfl ?_; refine qt_getI rfl rfl ?_; refine qt_iload_n (x := x2) rfl ?_; refine qt_iast ?_; refine qt_aload_n (r := o0) rfl ?_; refine qt_getR (r := o0 + 2) rfl rfl rfl ?_; refine qt_aload_n (r := o0) rfl ?_; refine qt_getI rfl rfl ?_; refine qt_iload_n (x := v8) rfl ?_; refine qt_iast ?_; refine qt_aload_n (r := o0) rfl ?_; refine qt_getR (r := o0 + 3) rfl rfl rfl ?_; refine qt_aload_n (r := o0) rfl ?_; refine qt_getI rfl rfl ?_; refine qt_iload (x := v10) rfl ?_; refine qt_iast ?_; refine qt_aload_n (r := o0) rfl ?_; refine qt_dupR ?_; refine qt_getI rfl rfl ?_; refine qt_iconst qc_1 ?_; refine qt_iadd ?_; refine qt_putI rfl ?_; exact qt_z rfl rfl rfl rfl rfl) ⟨ho18, ho19, ho20, ho21, ho22, ho23, ho24, ho25, ho26, ho27, ho28, ho29, ho30, ho31⟩ ?_
      exact s_retV (by decide +kernel) rfl h
theorem eX1_readLine {d : Nat} {o0 : Nat} {w : q_Sm} {Q : s_Po} {X : s_Xo} (h : vX1_readLine_0 d o0 w Q X) : s_Ev (d + 1) 0 mX1_readLine w [.ref (o0), .ref (2)] Q X := s_of (by decide +kernel) rfl (Nat.le_of_ble_eq_true rfl) (xX1_readLine_0 h)
def vX1_rightMoves_0 (d : Nat) (o0 : Nat) (r1 : Nat) (w : q_Sm) (Q : s_Po) (X : s_Xo) : Prop := s_Ex (d + 1) 0 mX1_rightMoves 4 [some (.ref (o0)), some (.ref (r1)), some (.int (0)), some (.int (0))] [] w Q X
def vX1_rightMoves_4 (d : Nat) (o0 : Nat) (r1 : Nat) (x2 : Int32) (x3 : Int32) (w : q_Sm) (Q : s_Po) (X : s_Xo) : Prop := (q_id 116 2 r1) ∧ (((w.1 r1 10) ≤ x3) → Q (some (.int (x2))) w) ∧ (¬ ((w.1 r1 10) ≤ x3) → q_id 116 1 o0 ∧ s_EvI d 0 mX1_isRight w [.ref (o0), .ref (r1), .int (x3)] (fun v1 u2 => ((v1 = 0) → s_Ex (d + 1) 0 mX1_rightMoves 4 [some (.ref (o0)), some (.ref (r1)), some (.int (x2)), some (.int (x3 + 1))] [] u2 Q X) ∧ (¬ (v1 = 0) → s_Ex (d + 1) 0 mX1_rightMoves 4 [some (.ref (o0)), some (.ref (r1)), some (.int (x2 ||| (1 <<< (x3 &&& 31)))), some (.int (x3 + 1))] [] u2 Q X)) X)
theorem xX1_rightMoves_0 {d : Nat} {o0 : Nat} {r1 : Nat} {w : q_Sm} {Q : s_Po} {X : s_Xo} (h : vX1_rightMoves_0 d o0 r1 w Q X) : s_Ex (d + 1) 0 mX1_rightMoves 0 [some (.ref (o0)), some (.ref (r1)), none, none] [] w Q X := by
  unfold vX1_rightMoves_0 at h
  refine s_blk [(.iconst 0, 1, 0, 0), (.istore_n 2, 1, 0, 0), (.iconst 0, 1, 0, 0), (.istore_n 3, 1, 0, 0)] 4 [some (.ref (o0)), some (.ref (r1)), some (.int (0)), some (.int (0))] [] w [] (by decide +kernel) (by refine qt_iconst qc_0 ?_; refine qt_istore_n (L' := [some (.ref (o0)), some (.ref (r1)), some (.int (0)), none]) rfl ?_; refine qt_iconst qc_0 ?_; refine qt_istore_n (L' := [some (.ref (o0)), some (.ref (r1)), some (.int (0)), some (.int (0))]) rfl ?_; exact qt_z rfl rfl rfl rfl rfl) trivial ?_
  exact h
theorem xX1_rightMoves_4 {d : Nat} {o0 : Nat} {r1 : Nat} {x2 : Int32} {x3 : Int32} {w : q_Sm} {Q : s_Po} {X : s_Xo} (h : vX1_rightMoves_4 d o0 r1 x2 x3 w Q X) : s_Ex (d + 1) 0 mX1_rightMoves 4 [some (.ref (o0)), some (.ref (r1)), some (.int (x2)), some (.int (x3))] [] w Q X := by
  unfold vX1_rightMoves_4 at h
  obtain ⟨ho3, h⟩ := h
  refine s_blk [(.iload_n 3, 1, 0, 0), (.aload_n 1, 1, 0, 0), (.getfield 59, 3, 2, 10)] 9 [some (.ref (o0)), some (.ref (r1)), some (.int (x2)), some (.int (x3))] [.int (w.1 r1 10), .int (x3)] w [q_id 116 2 r1] (by decide +kernel) (by refine qt_iload_n (x := x3) rfl ?_; refine qt_aload_n (r := r1) rfl ?_; refine qt_getI rfl rfl ?_; exact qt_z rfl rfl rfl rfl rfl) ho3 ?_
  refine s_icmp (cd := .ge) (off := 24) 33 (by decide +kernel) (by decide) (fun hc => ?_) (fun hc => ?_)
  · replace h := h.1 hc
    refine s_blk [(.iload_n 2, 1, 0, 0)] 34 [some (.ref (o0)), some (.ref (r1)), some (.int (x2)), some (.int (x3))] [.int (x2)] w [] (by decide +kernel) (by refine qt_iload_n (x := x2) rfl ?_; exact qt_z rfl rfl rfl rfl rfl) trivial ?_
    exact s_retI .int (by decide +kernel) rfl rfl h
  · replace h := h.2 hc
    refine s_blk [(.aload_n 0, 1, 0, 0), (.aload_n 1, 1, 0, 0), (.iload_n 3, 1, 0, 0)] 15 [some (.ref (o0)), some (.ref (r1)), some (.int (x2)), some (.int (x3))] [.int (x3), .ref (r1), .ref (o0)] w [] (by decide +kernel) (by refine qt_aload_n (r := o0) rfl ?_; refine qt_aload_n (r := r1) rfl ?_; refine qt_iload_n (x := x3) rfl ?_; exact qt_z rfl rfl rfl rfl rfl) trivial ?_
    obtain ⟨hid, h⟩ := h
    refine s_callV (a := 0) (a' := 0) (As := [.ref (r1), .int (x3)]) (id := o0) (st := []) kX1_isRight l_1_64 (by decide +kernel) hid rfl (Nat.le_of_ble_eq_true rfl) (s_mono h (s_I_of (fun v1 u2 h => ?_)) (fun _ _ h9 => h9))
    show s_Ex (d + 1) 0 mX1_rightMoves 18 [some (.ref (o0)), some (.ref (r1)), some (.int (x2)), some (.int (x3))] [.int (v1)] u2 Q X
    refine s_if (cd := .eq) (off := 9) 27 (by decide +kernel) (by decide) (fun hc => ?_) (fun hc => ?_)
    · replace h := h.1 hc
      refine s_blk [(.iinc 3 1, 3, 0, 0), (.goto (-26), 3, 4, 0)] 4 [some (.ref (o0)), some (.ref (r1)), some (.int (x2)), some (.int (x3 + 1))] [] u2 [] (by decide +kernel) (by refine qt_iinc (x := x3) (L' := [some (.ref (o0)), some (.ref (r1)), some (.int (x2)), some (.int (x3 + 1))]) rfl qc_1 rfl ?_; refine qt_goto ?_; exact qt_z rfl rfl rfl rfl rfl) trivial ?_
      exact h
    · replace h := h.2 hc
      refine s_blk [(.iload_n 2, 1, 0, 0), (.iconst 1, 1, 0, 0), (.iload_n 3, 1, 0, 0), (.ishl, 1, 0, 0), (.ior, 1, 0, 0), (.istore_n 2, 1, 0, 0), (.iinc 3 1, 3, 0, 0), (.goto (-26), 3, 4, 0)] 4 [some (.ref (o0)), some (.ref (r1)), some (.int (x2 ||| (1 <<< (x3 &&& 31)))), some (.int (x3 + 1))] [] u2 [] (by decide +kernel) (by refine qt_iload_n (x := x2) rfl ?_; refine qt_iconst qc_1 ?_; refine qt_iload_n (x := x3) rfl ?_; refine qt_ishl ?_; refine qt_ior ?_; refine qt_istore_n (L' := [some (.ref (o0)), some (.ref (r1)), some (.int (x2 ||| (1 <<< (x3 &&& 31)))), some (.int (x3))]) rfl ?_; refine qt_iinc (x := x3) (L' := [some (.ref (o0)), some (.ref (r1)), some (.int (x2 ||| (1 <<< (x3 &&& 31)))), some (.int (x3 + 1))]) rfl qc_1 rfl ?_; refine qt_goto ?_; exact qt_z rfl rfl rfl rfl rfl) trivial ?_
      exact h
theorem eX1_rightMoves {d : Nat} {o0 : Nat} {r1 : Nat} {w : q_Sm} {Q : s_Po} {X : s_Xo} (h : vX1_rightMoves_0 d o0 r1 w Q X) : s_Ev (d + 1) 0 mX1_rightMoves w [.ref (o0), .ref (r1)] Q X := s_of (by decide +kernel) rfl (Nat.le_of_ble_eq_true rfl) (xX1_rightMoves_0 h)
def vX1_isRight_0 (d : Nat) (o0 : Nat) (r1 : Nat) (x2 : Int32) (w : q_Sm) (Q : s_Po) (X : s_Xo) : Prop := s_Ex (d + 1) 0 mX1_isRight 2 [some (.ref (o0)), some (.ref (r1)), some (.int (x2)), some (.int (0))] [] w Q X
def vX1_isRight_2 (d : Nat) (o0 : Nat) (r1 : Nat) (x2 : Int32) (x3 : Int32) (w : q_Sm) (Q : s_Po) (X : s_Xo) : Prop := (q_id 116 1 o0) ∧ (((w.1 o0 0) ≤ x3) → Q (some (.int (1))) w) ∧ (¬ ((w.1 o0 0) ≤ x3) → (q_id 116 1 o0) ∧ (q_id 116 14 (o0 + 1)) ∧ (vp_in x3 (q_sh (o0 + 1)).2) ∧ (q_id 116 1 o0) ∧ (q_id 116 14 (o0 + 2)) ∧ (vp_in x3 (q_sh (o0 + 2)).2) ∧ q_id 116 2 r1 ∧ s_EvI d 0 mX2_shine w [.ref (r1), .int ((w.1 (o0 + 1) (Int32.toNatClampNeg x3)) + x2), .int (w.1 (o0 + 2) (Int32.toNatClampNeg x3))] (fun v1 u2 => (q_id 116 1 o0) ∧ (q_id 116 14 (o0 + 3)) ∧ (vp_in x3 (q_sh (o0 + 3)).2) ∧ ((v1 = (u2.1 (o0 + 3) (Int32.toNatClampNeg x3))) → s_Ex (d + 1) 0 mX1_isRight 2 [some (.ref (o0)), some (.ref (r1)), some (.int (x2)), some (.int (x3 + 1))] [] u2 Q X) ∧ (¬ (v1 = (u2.1 (o0 + 3) (Int32.toNatClampNeg x3))) → Q (some (.int (0))) u2)) X)
theorem xX1_isRight_0 {d : Nat} {o0 : Nat} {r1 : Nat} {x2 : Int32} {w : q_Sm} {Q : s_Po} {X : s_Xo} (h : vX1_isRight_0 d o0 r1 x2 w Q X) : s_Ex (d + 1) 0 mX1_isRight 0 [some (.ref (o0)), some (.ref (r1)), some (.int (x2)), none] [] w Q X := by
  unfold vX1_isRight_0 at h
  refine s_blk [(.iconst 0, 1, 0, 0), (.istore_n 3, 1, 0, 0)] 2 [some (.ref (o0)), some (.ref (r1)), some (.int (x2)), some (.int (0))] [] w [] (by decide +kernel) (by refine qt_iconst qc_0 ?_; refine qt_istore_n (L' := [some (.ref (o0)), some (.ref (r1)), some (.int (x2)), some (.int (0))]) rfl ?_; exact qt_z rfl rfl rfl rfl rfl) trivial ?_
  exact h
theorem xX1_isRight_2 {d : Nat} {o0 : Nat} {r1 : Nat} {x2 : Int32} {x3 : Int32} {w : q_Sm} {Q : s_Po} {X : s_Xo} (h : vX1_isRight_2 d o0 r1 x2 x3 w Q X) : s_Ex (d + 1) 0 mX1_isRight 2 [some (.ref (o0)), some (.ref (r1)), some (.int (x2)), some (.int (x3))] [] w Q X := by
  unfold vX1_isRight_2 at h
  obtain ⟨ho12, h⟩ := h
  refine s_blk [(.iload_n 3, 1, 0, 0), (.aload_n 0, 1, 0, 0), (.getfield 21, 3, 1, 0)] 7 [some (.ref (o0)), some (.ref (r1)), some (.int (x2)), some (.int (x3))] [.int (w.1 o0 0), .int (x3)] w [q_id 116 1 o0] (by decide +kernel) (by refine qt_iload_n (x := x3) rfl ?_; refine qt_aload_n (r := o0) rfl ?_; refine qt_getI rfl rfl ?_; exact qt_z rfl rfl rfl rfl rfl) ho12 ?_
  refine s_icmp (cd := .ge) (off := 38) 45 (by decide +kernel) (by decide) (fun hc => ?_) (fun hc => ?_)
  · replace h := h.1 hc
    refine s_blk [(.iconst 1, 1, 0, 0)] 46 [some (.ref (o0)), some (.ref (r1)), some (.int (x2)), some (.int (x3))] [.int (1)] w [] (by decide +kernel) (by refine qt_iconst qc_1 ?_; exact qt_z rfl rfl rfl rfl rfl) trivial ?_
    exact s_retI .boolean (by decide +kernel) rfl rfl h
  · replace h := h.2 hc
    obtain ⟨ho6, h⟩ := h
    obtain ⟨ho7, h⟩ := h
    obtain ⟨ho8, h⟩ := h
    obtain ⟨ho9, h⟩ := h
    obtain ⟨ho10, h⟩ := h
    obtain ⟨ho11, h⟩ := h
    refine s_blk [(.aload_n 1, 1, 0, 0), (.aload_n 0, 1, 0, 0), (.getfield 9, 3, 1, 1), (.iload_n 3, 1, 0, 0), (.iaload, 1, 0, 0), (.iload_n 2, 1, 0, 0), (.iadd, 1, 0, 0), (.aload_n 0, 1, 0, 0), (.getfield 15, 3, 1, 2), (.iload_n 3, 1, 0, 0), (.iaload, 1, 0, 0)] 25 [some (.ref (o0)), some (.ref (r1)), some (.int (x2)), some (.int (x3))] [.int (w.1 (o0 + 2) (Int32.toNatClampNeg x3)), .int ((w.1 (o0 + 1) (Int32.toNatClampNeg x3)) + x2), .ref (r1)] w [q_id 116 1 o0, q_id 116 14 (o0 + 1), vp_in x3 (q_sh (o0 + 1)).2, q_id 116 1 o0, q_id 116 14 (o0 + 2), vp_in x3 (q_sh (o0 + 2)).2] (by decide +kernel) (by refine qt_aload_n (r := r1) rfl ?_; refine qt_aload_n (r := o0) rfl ?_; refine qt_getR (r := o0 + 1) rfl rfl rfl ?_; refine qt_iload_n (x := x3) rfl ?_; refine qt_iald ?_; refine qt_iload_n (x := x2) rfl ?_; refine qt_iadd ?_; refine qt_aload_n (r := o0) rfl ?_; refine qt_getR (r := o0 + 2) rfl rfl rfl ?_; refine qt_iload_n (x := x3) rfl ?_; refine qt_iald ?_; exact qt_z rfl rfl rfl rfl rfl) ⟨ho6, ho7, ho8, ho9, ho10, ho11⟩ ?_
    obtain ⟨hid, h⟩ := h
    refine s_callV (a := 0) (a' := 0) (As := [.int ((w.1 (o0 + 1) (Int32.toNatClampNeg x3)) + x2), .int (w.1 (o0 + 2) (Int32.toNatClampNeg x3))]) (id := r1) (st := []) kX2_shine l_1_68 (by decide +kernel) hid rfl (Nat.le_of_ble_eq_true rfl) (s_mono h (s_I_of (fun v1 u2 h => ?_)) (fun _ _ h9 => h9))
    show s_Ex (d + 1) 0 mX1_isRight 28 [some (.ref (o0)), some (.ref (r1)), some (.int (x2)), some (.int (x3))] [.int (v1)] u2 Q X
    obtain ⟨ho3, h⟩ := h
    obtain ⟨ho4, h⟩ := h
    obtain ⟨ho5, h⟩ := h
    refine s_blk [(.aload_n 0, 1, 0, 0), (.getfield 18, 3, 1, 3), (.iload_n 3, 1, 0, 0), (.iaload, 1, 0, 0)] 34 [some (.ref (o0)), some (.ref (r1)), some (.int (x2)), some (.int (x3))] [.int (u2.1 (o0 + 3) (Int32.toNatClampNeg x3)), .int (v1)] u2 [q_id 116 1 o0, q_id 116 14 (o0 + 3), vp_in x3 (q_sh (o0 + 3)).2] (by decide +kernel) (by refine qt_aload_n (r := o0) rfl ?_; refine qt_getR (r := o0 + 3) rfl rfl rfl ?_; refine qt_iload_n (x := x3) rfl ?_; refine qt_iald ?_; exact qt_z rfl rfl rfl rfl rfl) ⟨ho3, ho4, ho5⟩ ?_
    refine s_icmp (cd := .eq) (off := 5) 39 (by decide +kernel) (by decide) (fun hc => ?_) (fun hc => ?_)
    · replace h := h.1 hc
      refine s_blk [(.iinc 3 1, 3, 0, 0), (.goto (-40), 3, 2, 0)] 2 [some (.ref (o0)), some (.ref (r1)), some (.int (x2)), some (.int (x3 + 1))] [] u2 [] (by decide +kernel) (by refine qt_iinc (x := x3) (L' := [some (.ref (o0)), some (.ref (r1)), some (.int (x2)), some (.int (x3 + 1))]) rfl qc_1 rfl ?_; refine qt_goto ?_; exact qt_z rfl rfl rfl rfl rfl) trivial ?_
      exact h
    · replace h := h.2 hc
      refine s_blk [(.iconst 0, 1, 0, 0)] 38 [some (.ref (o0)), some (.ref (r1)), some (.int (x2)), some (.int (x3))] [.int (0)] u2 [] (by decide +kernel) (by refine qt_iconst qc_0 ?_; exact qt_z rfl rfl rfl rfl rfl) trivial ?_
      exact s_retI .boolean (by decide +kernel) rfl rfl h
theorem eX1_isRight {d : Nat} {o0 : Nat} {r1 : Nat} {x2 : Int32} {w : q_Sm} {Q : s_Po} {X : s_Xo} (h : vX1_isRight_0 d o0 r1 x2 w Q X) : s_Ev (d + 1) 0 mX1_isRight w [.ref (o0), .ref (r1), .int (x2)] Q X := s_of (by decide +kernel) rfl (Nat.le_of_ble_eq_true rfl) (xX1_isRight_0 h)
def vX1_findLook_0 (d : Nat) (o0 : Nat) (r1 : Nat) (w : q_Sm) (Q : s_Po) (X : s_Xo) : Prop := (q_id 116 1 o0) ∧ ∀ w_1 : q_Sm, w_1 = q_wI w o0 4 (-1) → (q_id 116 1 o0) ∧ ∀ w_2 : q_Sm, w_2 = q_wI w_1 o0 5 (-1) → (q_id 116 1 o0) ∧ ∀ w_3 : q_Sm, w_3 = q_wI w_2 o0 6 (-1) → q_id 116 1 o0 ∧ s_EvI d 0 mX1_rightMoves w_3 [.ref (o0), .ref (r1)] (fun v4 u5 => s_Ex (d + 1) 0 mX1_findLook 23 [some (.ref (o0)), some (.ref (r1)), some (.int (v4)), some (.int (0)), none] [] u5 Q X) X
def vX1_findLook_23 (d : Nat) (o0 : Nat) (r1 : Nat) (x2 : Int32) (x3 : Int32) (w : q_Sm) (Q : s_Po) (X : s_Xo) : Prop := (q_id 116 2 r1) ∧ (((w.1 r1 10) ≤ x3) → Q none w) ∧ (¬ ((w.1 r1 10) ≤ x3) → s_Ex (d + 1) 0 mX1_findLook 34 [some (.ref (o0)), some (.ref (r1)), some (.int (x2)), some (.int (x3)), some (.int (0))] [] w Q X)
def vX1_findLook_34 (d : Nat) (o0 : Nat) (r1 : Nat) (x2 : Int32) (x3 : Int32) (x4 : Int32) (w : q_Sm) (Q : s_Po) (X : s_Xo) : Prop := ((4 ≤ x4) → s_Ex (d + 1) 0 mX1_findLook 23 [some (.ref (o0)), some (.ref (r1)), some (.int (x2)), some (.int (x3 + 1)), none] [] w Q X) ∧ (¬ (4 ≤ x4) → q_id 116 1 o0 ∧ s_EvI d 0 mX1_isInLine w [.ref (o0), .int (x3), .int (x4)] (fun v10 u11 => ((¬ v10 = 0) → s_Ex (d + 1) 0 mX1_findLook 34 [some (.ref (o0)), some (.ref (r1)), some (.int (x2)), some (.int (x3)), some (.int (x4 + 1))] [] u11 Q X) ∧ (¬ (¬ v10 = 0) → s_EvI d 0 mX1_mostAlike u11 [.ref (r1), .int (x2), .int (x3), .int (x4)] (fun v12 u13 => q_id 116 1 o0 ∧ s_EvV d 0 mX1_offerLook u13 [.ref (o0), .int (x3), .int (x4), .int (v12)] (fun u15 => s_Ex (d + 1) 0 mX1_findLook 34 [some (.ref (o0)), some (.ref (r1)), some (.int (x2)), some (.int (x3)), some (.int (x4 + 1))] [] u15 Q X) X) X)) X)
theorem xX1_findLook_0 {d : Nat} {o0 : Nat} {r1 : Nat} {w : q_Sm} {Q : s_Po} {X : s_Xo} (h : vX1_findLook_0 d o0 r1 w Q X) : s_Ex (d + 1) 0 mX1_findLook 0 [some (.ref (o0)), some (.ref (r1)), none, none, none] [] w Q X := by
  unfold vX1_findLook_0 at h
  obtain ⟨ho6, h⟩ := h
  replace h := h _ rfl
  obtain ⟨ho7, h⟩ := h
  replace h := h _ rfl
  obtain ⟨ho8, h⟩ := h
  replace h := h _ rfl
  refine s_blk [(.aload_n 0, 1, 0, 0), (.iconst (-1), 1, 0, 0), (.putfield 71, 3, 1, 4), (.aload_n 0, 1, 0, 0), (.iconst (-1), 1, 0, 0), (.putfield 74, 3, 1, 5), (.aload_n 0, 1, 0, 0), (.iconst (-1), 1, 0, 0), (.putfield 77, 3, 1, 6), (.aload_n 0, 1, 0, 0), (.aload_n 1, 1, 0, 0)] 17 [some (.ref (o0)), some (.ref (r1)), none, none, none] [.ref (r1), .ref (o0)] (q_wI (q_wI (q_wI w o0 4 (-1)) o0 5 (-1)) o0 6 (-1)) [q_id 116 1 o0, q_id 116 1 o0, q_id 116 1 o0] (by decide +kernel) (by refine qt_aload_n (r := o0) rfl ?_; refine qt_iconst qc_m1 ?_; refine qt_putI rfl ?_; refine qt_aload_n (r := o0) rfl ?_; refine qt_iconst qc_m1 ?_; refine qt_putI rfl ?_; refine qt_aload_n (r := o0) rfl ?_; refine qt_iconst qc_m1 ?_; refine qt_putI rfl ?_; refine qt_aload_n (r := o0) rfl ?_; refine qt_aload_n (r := r1) rfl ?_; exact qt_z rfl rfl rfl rfl rfl) ⟨ho6, ho7, ho8⟩ ?_
  obtain ⟨hid, h⟩ := h
  refine s_callV (a := 0) (a' := 0) (As := [.ref (r1)]) (id := o0) (st := []) kX1_rightMoves l_1_80 (by decide +kernel) hid rfl (Nat.le_of_ble_eq_true rfl) (s_mono h (s_I_of (fun v4 u5 h => ?_)) (fun _ _ h9 => h9))
  show s_Ex (d + 1) 0 mX1_findLook 20 [some (.ref (o0)), some (.ref (r1)), none, none, none] [.int (v4)] u5 Q X
  refine s_blk [(.istore_n 2, 1, 0, 0), (.iconst 0, 1, 0, 0), (.istore_n 3, 1, 0, 0)] 23 [some (.ref (o0)), some (.ref (r1)), some (.int (v4)), some (.int (0)), none] [] u5 [] (by decide +kernel) (by refine qt_istore_n (L' := [some (.ref (o0)), some (.ref (r1)), some (.int (v4)), none, none]) rfl ?_; refine qt_iconst qc_0 ?_; refine qt_istore_n (L' := [some (.ref (o0)), some (.ref (r1)), some (.int (v4)), some (.int (0)), none]) rfl ?_; exact qt_z rfl rfl rfl rfl rfl) trivial ?_
  exact h
theorem xX1_findLook_23 {d : Nat} {o0 : Nat} {r1 : Nat} {x2 : Int32} {x3 : Int32} {w : q_Sm} {Q : s_Po} {X : s_Xo} (h : vX1_findLook_23 d o0 r1 x2 x3 w Q X) : s_Ex (d + 1) 0 mX1_findLook 23 [some (.ref (o0)), some (.ref (r1)), some (.int (x2)), some (.int (x3)), none] [] w Q X := by
  unfold vX1_findLook_23 at h
  obtain ⟨ho9, h⟩ := h
  refine s_blk [(.iload_n 3, 1, 0, 0), (.aload_n 1, 1, 0, 0), (.getfield 59, 3, 2, 10)] 28 [some (.ref (o0)), some (.ref (r1)), some (.int (x2)), some (.int (x3)), none] [.int (w.1 r1 10), .int (x3)] w [q_id 116 2 r1] (by decide +kernel) (by refine qt_iload_n (x := x3) rfl ?_; refine qt_aload_n (r := r1) rfl ?_; refine qt_getI rfl rfl ?_; exact qt_z rfl rfl rfl rfl rfl) ho9 ?_
  refine s_icmp (cd := .ge) (off := 49) 77 (by decide +kernel) (by decide) (fun hc => ?_) (fun hc => ?_)
  · replace h := h.1 hc
    exact s_retV (by decide +kernel) rfl h
  · replace h := h.2 hc
    refine s_blk [(.iconst 0, 1, 0, 0), (.istore 4, 2, 0, 0)] 34 [some (.ref (o0)), some (.ref (r1)), some (.int (x2)), some (.int (x3)), some (.int (0))] [] w [] (by decide +kernel) (by refine qt_iconst qc_0 ?_; refine qt_istore (L' := [some (.ref (o0)), some (.ref (r1)), some (.int (x2)), some (.int (x3)), some (.int (0))]) rfl ?_; exact qt_z rfl rfl rfl rfl rfl) trivial ?_
    exact h
theorem xX1_findLook_34 {d : Nat} {o0 : Nat} {r1 : Nat} {x2 : Int32} {x3 : Int32} {x4 : Int32} {w : q_Sm} {Q : s_Po} {X : s_Xo} (h : vX1_findLook_34 d o0 r1 x2 x3 x4 w Q X) : s_Ex (d + 1) 0 mX1_findLook 34 [some (.ref (o0)), some (.ref (r1)), some (.int (x2)), some (.int (x3)), some (.int (x4))] [] w Q X := by
  unfold vX1_findLook_34 at h
  refine s_blk [(.iload 4, 2, 0, 0), (.iconst 4, 1, 0, 0)] 37 [some (.ref (o0)), some (.ref (r1)), some (.int (x2)), some (.int (x3)), some (.int (x4))] [.int (4), .int (x4)] w [] (by decide +kernel) (by refine qt_iload (x := x4) rfl ?_; refine qt_iconst qc_4 ?_; exact qt_z rfl rfl rfl rfl rfl) trivial ?_
  refine s_icmp (cd := .ge) (off := 34) 71 (by decide +kernel) (by decide) (fun hc => ?_) (fun hc => ?_)
  · replace h := h.1 hc
    refine s_blk [(.iinc 3 1, 3, 0, 0), (.goto (-51), 3, 23, 0), (.nop, 0, 4, 0)] 23 [some (.ref (o0)), some (.ref (r1)), some (.int (x2)), some (.int (x3 + 1)), none] [] w [] (by decide +kernel) (by refine qt_iinc (x := x3) (L' := [some (.ref (o0)), some (.ref (r1)), some (.int (x2)), some (.int (x3 + 1)), some (.int (x4))]) rfl qc_1 rfl ?_; refine qt_goto ?_; refine qt_nop (L' := [some (.ref (o0)), some (.ref (r1)), some (.int (x2)), some (.int (x3 + 1)), none]) rfl ?_; exact qt_z rfl rfl rfl rfl rfl) trivial ?_
    exact h
  · replace h := h.2 hc
    refine s_blk [(.aload_n 0, 1, 0, 0), (.iload_n 3, 1, 0, 0), (.iload 4, 2, 0, 0)] 44 [some (.ref (o0)), some (.ref (r1)), some (.int (x2)), some (.int (x3)), some (.int (x4))] [.int (x4), .int (x3), .ref (o0)] w [] (by decide +kernel) (by refine qt_aload_n (r := o0) rfl ?_; refine qt_iload_n (x := x3) rfl ?_; refine qt_iload (x := x4) rfl ?_; exact qt_z rfl rfl rfl rfl rfl) trivial ?_
    obtain ⟨hid, h⟩ := h
    refine s_callV (a := 0) (a' := 0) (As := [.int (x3), .int (x4)]) (id := o0) (st := []) kX1_isInLine l_1_84 (by decide +kernel) hid rfl (Nat.le_of_ble_eq_true rfl) (s_mono h (s_I_of (fun v10 u11 h => ?_)) (fun _ _ h9 => h9))
    show s_Ex (d + 1) 0 mX1_findLook 47 [some (.ref (o0)), some (.ref (r1)), some (.int (x2)), some (.int (x3)), some (.int (x4))] [.int (v10)] u11 Q X
    refine s_if (cd := .ne) (off := 18) 65 (by decide +kernel) (by decide) (fun hc => ?_) (fun hc => ?_)
    · replace h := h.1 hc
      refine s_blk [(.iinc 4 1, 3, 0, 0), (.goto (-34), 3, 34, 0)] 34 [some (.ref (o0)), some (.ref (r1)), some (.int (x2)), some (.int (x3)), some (.int (x4 + 1))] [] u11 [] (by decide +kernel) (by refine qt_iinc (x := x4) (L' := [some (.ref (o0)), some (.ref (r1)), some (.int (x2)), some (.int (x3)), some (.int (x4 + 1))]) rfl qc_1 rfl ?_; refine qt_goto ?_; exact qt_z rfl rfl rfl rfl rfl) trivial ?_
      exact h
    · replace h := h.2 hc
      refine s_blk [(.aload_n 0, 1, 0, 0), (.iload_n 3, 1, 0, 0), (.iload 4, 2, 0, 0), (.aload_n 1, 1, 0, 0), (.iload_n 2, 1, 0, 0), (.iload_n 3, 1, 0, 0), (.iload 4, 2, 0, 0)] 59 [some (.ref (o0)), some (.ref (r1)), some (.int (x2)), some (.int (x3)), some (.int (x4))] [.int (x4), .int (x3), .int (x2), .ref (r1), .int (x4), .int (x3), .ref (o0)] u11 [] (by decide +kernel) (by refine qt_aload_n (r := o0) rfl ?_; refine qt_iload_n (x := x3) rfl ?_; refine qt_iload (x := x4) rfl ?_; refine qt_aload_n (r := r1) rfl ?_; refine qt_iload_n (x := x2) rfl ?_; refine qt_iload_n (x := x3) rfl ?_; refine qt_iload (x := x4) rfl ?_; exact qt_z rfl rfl rfl rfl rfl) trivial ?_
      refine s_callS (a := 0) (a' := 0) (As := [.ref (r1), .int (x2), .int (x3), .int (x4)]) (st := [.int (x4), .int (x3), .ref (o0)]) kX1_mostAlike l_1_88 (by decide +kernel) rfl (Nat.le_of_ble_eq_true rfl) (s_mono h (s_I_of (fun v12 u13 h => ?_)) (fun _ _ h9 => h9))
      show s_Ex (d + 1) 0 mX1_findLook 62 [some (.ref (o0)), some (.ref (r1)), some (.int (x2)), some (.int (x3)), some (.int (x4))] [.int (v12), .int (x4), .int (x3), .ref (o0)] u13 Q X
      obtain ⟨hid, h⟩ := h
      refine s_callV (a := 0) (a' := 0) (As := [.int (x3), .int (x4), .int (v12)]) (id := o0) (st := []) kX1_offerLook l_1_92 (by decide +kernel) hid rfl (Nat.le_of_ble_eq_true rfl) (s_mono h (s_V_of (fun u15 h => ?_)) (fun _ _ h9 => h9))
      show s_Ex (d + 1) 0 mX1_findLook 65 [some (.ref (o0)), some (.ref (r1)), some (.int (x2)), some (.int (x3)), some (.int (x4))] [] u15 Q X
      refine s_blk [(.iinc 4 1, 3, 0, 0), (.goto (-34), 3, 34, 0)] 34 [some (.ref (o0)), some (.ref (r1)), some (.int (x2)), some (.int (x3)), some (.int (x4 + 1))] [] u15 [] (by decide +kernel) (by refine qt_iinc (x := x4) (L' := [some (.ref (o0)), some (.ref (r1)), some (.int (x2)), some (.int (x3)), some (.int (x4 + 1))]) rfl qc_1 rfl ?_; refine qt_goto ?_; exact qt_z rfl rfl rfl rfl rfl) trivial ?_
      exact h
theorem eX1_findLook {d : Nat} {o0 : Nat} {r1 : Nat} {w : q_Sm} {Q : s_Po} {X : s_Xo} (h : vX1_findLook_0 d o0 r1 w Q X) : s_Ev (d + 1) 0 mX1_findLook w [.ref (o0), .ref (r1)] Q X := s_of (by decide +kernel) rfl (Nat.le_of_ble_eq_true rfl) (xX1_findLook_0 h)
