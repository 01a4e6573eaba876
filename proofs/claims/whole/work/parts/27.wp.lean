def vX5_readPair_0 (d : Nat) (o0 : Nat) (x2 : Int32) (x3 : Int32) (w : q_Sm) (Q : s_Po) (X : s_Xo) : Prop := s_EvI d 0 mX5_mayOpen w [.ref (2), .int (x2)] (fun v1 u2 => ((v1 = 0) → Q none u2) ∧ (¬ (v1 = 0) → s_EvV d 0 mX10_need u2 [.ref (2), .int (91)] (fun u4 => q_id 116 5 o0 ∧ s_EvV d 0 mX5_readSum u4 [.ref (o0), .ref (2), .int (x2 + 1)] (fun u6 => s_EvV d 0 mX10_need u6 [.ref (2), .int (44)] (fun u8 => q_id 116 5 o0 ∧ s_EvV d 0 mX5_readSum u8 [.ref (o0), .ref (2), .int (x2 + 1)] (fun u10 => s_EvV d 0 mX10_need u10 [.ref (2), .int (93)] (fun u12 => q_id 116 5 o0 ∧ s_EvV d 0 mX5_emit u12 [.ref (o0), .int (x3)] (fun u14 => Q none u14) X) X) X) X) X) X)) X
theorem xX5_readPair_0 {d : Nat} {o0 : Nat} {x2 : Int32} {x3 : Int32} {w : q_Sm} {Q : s_Po} {X : s_Xo} (h : vX5_readPair_0 d o0 x2 x3 w Q X) : s_Ex (d + 1) 0 mX5_readPair 0 [some (.ref (o0)), some (.ref (2)), some (.int (x2)), some (.int (x3))] [] w Q X := by
  unfold vX5_readPair_0 at h
  refine s_blk [(.aload_n 1, 1, 0, 0), (.iload_n 2, 1, 0, 0)] 2 [some (.ref (o0)), some (.ref (2)), some (.int (x2)), some (.int (x3))] [.int (x2), .ref (2)] w [] (by decide +kernel) (by refine qt_aload_n (r := 2) rfl ?_; refine qt_iload_n (x := x2) rfl ?_; exact qt_z rfl rfl rfl rfl rfl) trivial ?_
  refine s_callS (a := 0) (a' := 0) (As := [.ref (2), .int (x2)]) (st := []) kX5_mayOpen l_5_62 (by decide +kernel) rfl (Nat.le_of_ble_eq_true rfl) (s_mono h (s_I_of (fun v1 u2 h => ?_)) (fun _ _ h9 => h9))
  show s_Ex (d + 1) 0 mX5_readPair 5 [some (.ref (o0)), some (.ref (2)), some (.int (x2)), some (.int (x3))] [.int (v1)] u2 Q X
  refine s_if (cd := .eq) (off := 42) 47 (by decide +kernel) (by decide) (fun hc => ?_) (fun hc => ?_)
  · replace h := h.1 hc
    exact s_retV (by decide +kernel) rfl h
  · replace h := h.2 hc
    refine s_blk [(.aload_n 1, 1, 0, 0), (.bipush 91, 2, 0, 0)] 11 [some (.ref (o0)), some (.ref (2)), some (.int (x2)), some (.int (x3))] [.int (91), .ref (2)] u2 [] (by decide +kernel) (by refine qt_aload_n (r := 2) rfl ?_; refine qt_bipush qb_91 ?_; exact qt_z rfl rfl rfl rfl rfl) trivial ?_
    refine s_callV (a := 0) (a' := 0) (As := [.int (91)]) (id := 2) (st := []) kX10_need l_5_66 (by decide +kernel) (q_id_of rfl) rfl (Nat.le_of_ble_eq_true rfl) (s_mono h (s_V_of (fun u4 h => ?_)) (fun _ _ h9 => h9))
    show s_Ex (d + 1) 0 mX5_readPair 14 [some (.ref (o0)), some (.ref (2)), some (.int (x2)), some (.int (x3))] [] u4 Q X
    refine s_blk [(.aload_n 0, 1, 0, 0), (.aload_n 1, 1, 0, 0), (.iload_n 2, 1, 0, 0), (.iconst 1, 1, 0, 0), (.iadd, 1, 0, 0)] 19 [some (.ref (o0)), some (.ref (2)), some (.int (x2)), some (.int (x3))] [.int (x2 + 1), .ref (2), .ref (o0)] u4 [] (by decide +kernel) (by refine qt_aload_n (r := o0) rfl ?_; refine qt_aload_n (r := 2) rfl ?_; refine qt_iload_n (x := x2) rfl ?_; refine qt_iconst qc_1 ?_; refine qt_iadd ?_; exact qt_z rfl rfl rfl rfl rfl) trivial ?_
    obtain ⟨hid, h⟩ := h
    refine s_callV (a := 0) (a' := 0) (As := [.ref (2), .int (x2 + 1)]) (id := o0) (st := []) kX5_readSum l_5_32 (by decide +kernel) hid rfl (Nat.le_of_ble_eq_true rfl) (s_mono h (s_V_of (fun u6 h => ?_)) (fun _ _ h9 => h9))
    show s_Ex (d + 1) 0 mX5_readPair 22 [some (.ref (o0)), some (.ref (2)), some (.int (x2)), some (.int (x3))] [] u6 Q X
    refine s_blk [(.aload_n 1, 1, 0, 0), (.bipush 44, 2, 0, 0)] 25 [some (.ref (o0)), some (.ref (2)), some (.int (x2)), some (.int (x3))] [.int (44), .ref (2)] u6 [] (by decide +kernel) (by refine qt_aload_n (r := 2) rfl ?_; refine qt_bipush qb_44 ?_; exact qt_z rfl rfl rfl rfl rfl) trivial ?_
    refine s_callV (a := 0) (a' := 0) (As := [.int (44)]) (id := 2) (st := []) kX10_need l_5_66 (by decide +kernel) (q_id_of rfl) rfl (Nat.le_of_ble_eq_true rfl) (s_mono h (s_V_of (fun u8 h => ?_)) (fun _ _ h9 => h9))
    show s_Ex (d + 1) 0 mX5_readPair 28 [some (.ref (o0)), some (.ref (2)), some (.int (x2)), some (.int (x3))] [] u8 Q X
    refine s_blk [(.aload_n 0, 1, 0, 0), (.aload_n 1, 1, 0, 0), (.iload_n 2, 1, 0, 0), (.iconst 1, 1, 0, 0), (.iadd, 1, 0, 0)] 33 [some (.ref (o0)), some (.ref (2)), some (.int (x2)), some (.int (x3))] [.int (x2 + 1), .ref (2), .ref (o0)] u8 [] (by decide +kernel) (by refine qt_aload_n (r := o0) rfl ?_; refine qt_aload_n (r := 2) rfl ?_; refine qt_iload_n (x := x2) rfl ?_; refine qt_iconst qc_1 ?_; refine qt_iadd ?_; exact qt_z rfl rfl rfl rfl rfl) trivial ?_
    obtain ⟨hid, h⟩ := h
    refine s_callV (a := 0) (a' := 0) (As := [.ref (2), .int (x2 + 1)]) (id := o0) (st := []) kX5_readSum l_5_32 (by decide +kernel) hid rfl (Nat.le_of_ble_eq_true rfl) (s_mono h (s_V_of (fun u10 h => ?_)) (fun _ _ h9 => h9))
    show s_Ex (d + 1) 0 mX5_readPair 36 [some (.ref (o0)), some (.ref (2)), some (.int (x2)), some (.int (x3))] [] u10 Q X
    refine s_blk [(.aload_n 1, 1, 0, 0), (.bipush 93, 2, 0, 0)] 39 [some (.ref (o0)), some (.ref (2)), some (.int (x2)), some (.int (x3))] [.int (93), .ref (2)] u10 [] (by decide +kernel) (by refine qt_aload_n (r := 2) rfl ?_; refine qt_bipush qb_93 ?_; exact qt_z rfl rfl rfl rfl rfl) trivial ?_
    refine s_callV (a := 0) (a' := 0) (As := [.int (93)]) (id := 2) (st := []) kX10_need l_5_66 (by decide +kernel) (q_id_of rfl) rfl (Nat.le_of_ble_eq_true rfl) (s_mono h (s_V_of (fun u12 h => ?_)) (fun _ _ h9 => h9))
    show s_Ex (d + 1) 0 mX5_readPair 42 [some (.ref (o0)), some (.ref (2)), some (.int (x2)), some (.int (x3))] [] u12 Q X
    refine s_blk [(.aload_n 0, 1, 0, 0), (.iload_n 3, 1, 0, 0)] 44 [some (.ref (o0)), some (.ref (2)), some (.int (x2)), some (.int (x3))] [.int (x3), .ref (o0)] u12 [] (by decide +kernel) (by refine qt_aload_n (r := o0) rfl ?_; refine qt_iload_n (x := x3) rfl ?_; exact qt_z rfl rfl rfl rfl rfl) trivial ?_
    obtain ⟨hid, h⟩ := h
    refine s_callV (a := 0) (a' := 0) (As := [.int (x3)]) (id := o0) (st := []) kX5_emit l_5_28 (by decide +kernel) hid rfl (Nat.le_of_ble_eq_true rfl) (s_mono h (s_V_of (fun u14 h => ?_)) (fun _ _ h9 => h9))
    show s_Ex (d + 1) 0 mX5_readPair 47 [some (.ref (o0)), some (.ref (2)), some (.int (x2)), some (.int (x3))] [] u14 Q X
    exact s_retV (by decide +kernel) rfl h
theorem eX5_readPair {d : Nat} {o0 : Nat} {x2 : Int32} {x3 : Int32} {w : q_Sm} {Q : s_Po} {X : s_Xo} (h : vX5_readPair_0 d o0 x2 x3 w Q X) : s_Ev (d + 1) 0 mX5_readPair w [.ref (o0), .ref (2), .int (x2), .int (x3)] Q X := s_of (by decide) rfl (Nat.le_of_ble_eq_true rfl) (xX5_readPair_0 h)
def vX5_mayOpen_0 (d : Nat) (x1 : Int32) (w : q_Sm) (Q : s_Po) (X : s_Xo) : Prop := ((x1 < 6) → s_EvI d 0 mX10_failed w [.ref (2)] (fun v1 u2 => ((¬ v1 = 0) → Q (some (.int (0))) u2) ∧ (¬ (¬ v1 = 0) → Q (some (.int (1))) u2)) X) ∧ (¬ (x1 < 6) → s_EvI d 0 mX10_startOfLast w [.ref (2)] (fun v3 u4 => s_EvV d 0 mX10_blame u4 [.ref (2), .int (3), .int (v3)] (fun u6 => s_EvI d 0 mX10_failed u6 [.ref (2)] (fun v7 u8 => ((¬ v7 = 0) → Q (some (.int (0))) u8) ∧ (¬ (¬ v7 = 0) → Q (some (.int (1))) u8)) X) X) X)
theorem xX5_mayOpen_0 {d : Nat} {x1 : Int32} {w : q_Sm} {Q : s_Po} {X : s_Xo} (h : vX5_mayOpen_0 d x1 w Q X) : s_Ex (d + 1) 0 mX5_mayOpen 0 [some (.ref (2)), some (.int (x1))] [] w Q X := by
  unfold vX5_mayOpen_0 at h
  refine s_blk [(.iload_n 1, 1, 0, 0), (.bipush 6, 2, 0, 0)] 3 [some (.ref (2)), some (.int (x1))] [.int (6), .int (x1)] w [] (by decide +kernel) (by refine qt_iload_n (x := x1) rfl ?_; refine qt_bipush qb_6 ?_; exact qt_z rfl rfl rfl rfl rfl) trivial ?_
  refine s_icmp (cd := .lt) (off := 12) 15 (by decide +kernel) (by decide) (fun hc => ?_) (fun hc => ?_)
  · replace h := h.1 hc
    refine s_blk [(.aload_n 0, 1, 0, 0)] 16 [some (.ref (2)), some (.int (x1))] [.ref (2)] w [] (by decide +kernel) (by refine qt_aload_n (r := 2) rfl ?_; exact qt_z rfl rfl rfl rfl rfl) trivial ?_
    refine s_callV (a := 0) (a' := 0) (As := []) (id := 2) (st := []) kX10_failed l_5_44 (by decide +kernel) (q_id_of rfl) rfl (Nat.le_of_ble_eq_true rfl) (s_mono h (s_I_of (fun v1 u2 h => ?_)) (fun _ _ h9 => h9))
    show s_Ex (d + 1) 0 mX5_mayOpen 19 [some (.ref (2)), some (.int (x1))] [.int (v1)] u2 Q X
    refine s_if (cd := .ne) (off := 7) 26 (by decide +kernel) (by decide) (fun hc => ?_) (fun hc => ?_)
    · replace h := h.1 hc
      refine s_blk [(.iconst 0, 1, 0, 0)] 27 [some (.ref (2)), some (.int (x1))] [.int (0)] u2 [] (by decide +kernel) (by refine qt_iconst qc_0 ?_; exact qt_z rfl rfl rfl rfl rfl) trivial ?_
      exact s_retI .boolean (by decide +kernel) rfl rfl h
    · replace h := h.2 hc
      refine s_blk [(.iconst 1, 1, 0, 0), (.goto 4, 3, 27, 0)] 27 [some (.ref (2)), some (.int (x1))] [.int (1)] u2 [] (by decide +kernel) (by refine qt_iconst qc_1 ?_; refine qt_goto ?_; exact qt_z rfl rfl rfl rfl rfl) trivial ?_
      exact s_retI .boolean (by decide +kernel) rfl rfl h
  · replace h := h.2 hc
    refine s_blk [(.aload_n 0, 1, 0, 0), (.iconst 3, 1, 0, 0), (.aload_n 0, 1, 0, 0)] 9 [some (.ref (2)), some (.int (x1))] [.ref (2), .int (3), .ref (2)] w [] (by decide +kernel) (by refine qt_aload_n (r := 2) rfl ?_; refine qt_iconst qc_3 ?_; refine qt_aload_n (r := 2) rfl ?_; exact qt_z rfl rfl rfl rfl rfl) trivial ?_
    refine s_callV (a := 0) (a' := 0) (As := []) (id := 2) (st := [.int (3), .ref (2)]) kX10_startOfLast l_5_89 (by decide +kernel) (q_id_of rfl) rfl (Nat.le_of_ble_eq_true rfl) (s_mono h (s_I_of (fun v3 u4 h => ?_)) (fun _ _ h9 => h9))
    show s_Ex (d + 1) 0 mX5_mayOpen 12 [some (.ref (2)), some (.int (x1))] [.int (v3), .int (3), .ref (2)] u4 Q X
    refine s_callV (a := 0) (a' := 0) (As := [.int (3), .int (v3)]) (id := 2) (st := []) kX10_blame l_5_93 (by decide +kernel) (q_id_of rfl) rfl (Nat.le_of_ble_eq_true rfl) (s_mono h (s_V_of (fun u6 h => ?_)) (fun _ _ h9 => h9))
    show s_Ex (d + 1) 0 mX5_mayOpen 15 [some (.ref (2)), some (.int (x1))] [] u6 Q X
    refine s_blk [(.aload_n 0, 1, 0, 0)] 16 [some (.ref (2)), some (.int (x1))] [.ref (2)] u6 [] (by decide +kernel) (by refine qt_aload_n (r := 2) rfl ?_; exact qt_z rfl rfl rfl rfl rfl) trivial ?_
    refine s_callV (a := 0) (a' := 0) (As := []) (id := 2) (st := []) kX10_failed l_5_44 (by decide +kernel) (q_id_of rfl) rfl (Nat.le_of_ble_eq_true rfl) (s_mono h (s_I_of (fun v7 u8 h => ?_)) (fun _ _ h9 => h9))
    show s_Ex (d + 1) 0 mX5_mayOpen 19 [some (.ref (2)), some (.int (x1))] [.int (v7)] u8 Q X
    refine s_if (cd := .ne) (off := 7) 26 (by decide +kernel) (by decide) (fun hc => ?_) (fun hc => ?_)
    · replace h := h.1 hc
      refine s_blk [(.iconst 0, 1, 0, 0)] 27 [some (.ref (2)), some (.int (x1))] [.int (0)] u8 [] (by decide +kernel) (by refine qt_iconst qc_0 ?_; exact qt_z rfl rfl rfl rfl rfl) trivial ?_
      exact s_retI .boolean (by decide +kernel) rfl rfl h
    · replace h := h.2 hc
      refine s_blk [(.iconst 1, 1, 0, 0), (.goto 4, 3, 27, 0)] 27 [some (.ref (2)), some (.int (x1))] [.int (1)] u8 [] (by decide +kernel) (by refine qt_iconst qc_1 ?_; refine qt_goto ?_; exact qt_z rfl rfl rfl rfl rfl) trivial ?_
      exact s_retI .boolean (by decide +kernel) rfl rfl h
theorem eX5_mayOpen {d : Nat} {x1 : Int32} {w : q_Sm} {Q : s_Po} {X : s_Xo} (h : vX5_mayOpen_0 d x1 w Q X) : s_Ev (d + 1) 0 mX5_mayOpen w [.ref (2), .int (x1)] Q X := s_of (by decide) rfl (Nat.le_of_ble_eq_true rfl) (xX5_mayOpen_0 h)
def vX5_readName_0 (d : Nat) (o0 : Nat) (w : q_Sm) (Q : s_Po) (X : s_Xo) : Prop := s_EvI d 0 mX10_was w [.ref (2), .retAddr 14] (fun v1 u2 => ((v1 = 0) → s_EvI d 0 mX10_was u2 [.ref (2), .retAddr 15] (fun v3 u4 => ((v3 = 0) → s_EvI d 0 mX10_was u4 [.ref (2), .retAddr 16] (fun v5 u6 => ((v5 = 0) → s_EvI d 0 mX10_was u6 [.ref (2), .retAddr 17] (fun v7 u8 => ((v7 = 0) → s_EvI d 0 mX10_was u8 [.ref (2), .retAddr 18] (fun v9 u10 => ((v9 = 0) → s_EvI d 0 mX10_was u10 [.ref (2), .retAddr 19] (fun v11 u12 => ((v11 = 0) → s_EvI d 0 mX10_was u12 [.ref (2), .retAddr 20] (fun v13 u14 => ((v13 = 0) → s_EvI d 0 mX10_startOfLast u14 [.ref (2)] (fun v15 u16 => s_EvV d 0 mX10_blame u16 [.ref (2), .int (1), .int (v15)] (fun u18 => Q none u18) X) X) ∧ (¬ (v13 = 0) → q_id 116 5 o0 ∧ s_EvV d 0 mX5_emit u14 [.ref (o0), .int (-7)] (fun u20 => Q none u20) X)) X) ∧ (¬ (v11 = 0) → q_id 116 5 o0 ∧ s_EvV d 0 mX5_emit u12 [.ref (o0), .int (-6)] (fun u22 => Q none u22) X)) X) ∧ (¬ (v9 = 0) → q_id 116 5 o0 ∧ s_EvV d 0 mX5_emit u10 [.ref (o0), .int (-5)] (fun u24 => Q none u24) X)) X) ∧ (¬ (v7 = 0) → q_id 116 5 o0 ∧ s_EvV d 0 mX5_emit u8 [.ref (o0), .int (-4)] (fun u26 => Q none u26) X)) X) ∧ (¬ (v5 = 0) → q_id 116 5 o0 ∧ s_EvV d 0 mX5_emit u6 [.ref (o0), .int (-3)] (fun u28 => Q none u28) X)) X) ∧ (¬ (v3 = 0) → q_id 116 5 o0 ∧ s_EvV d 0 mX5_emit u4 [.ref (o0), .int (-2)] (fun u30 => Q none u30) X)) X) ∧ (¬ (v1 = 0) → q_id 116 5 o0 ∧ s_EvV d 0 mX5_emit u2 [.ref (o0), .int (-1)] (fun u32 => Q none u32) X)) X
theorem xX5_readName_0 {d : Nat} {o0 : Nat} {w : q_Sm} {Q : s_Po} {X : s_Xo} (h : vX5_readName_0 d o0 w Q X) : s_Ex (d + 1) 0 mX5_readName 0 [some (.ref (o0)), some (.ref (2))] [] w Q X := by
  unfold vX5_readName_0 at h
  refine s_blk [(.aload_n 1, 1, 0, 0), (.ldc 97, 2, 1, 14)] 3 [some (.ref (o0)), some (.ref (2))] [.retAddr 14, .ref (2)] w [] (by decide +kernel) (by refine qt_aload_n (r := 2) rfl ?_; refine qt_ldcS ?_; exact qt_z rfl rfl rfl rfl rfl) trivial ?_
  refine s_callV (a := 0) (a' := 0) (As := [.retAddr 14]) (id := 2) (st := []) kX10_was l_5_75 (by decide +kernel) (q_id_of rfl) rfl (Nat.le_of_ble_eq_true rfl) (s_mono h (s_I_of (fun v1 u2 h => ?_)) (fun _ _ h9 => h9))
  show s_Ex (d + 1) 0 mX5_readName 6 [some (.ref (o0)), some (.ref (2))] [.int (v1)] u2 Q X
  refine s_if (cd := .eq) (off := 11) 17 (by decide +kernel) (by decide) (fun hc => ?_) (fun hc => ?_)
  · replace h := h.1 hc
    refine s_blk [(.aload_n 1, 1, 0, 0), (.ldc 99, 2, 1, 15)] 20 [some (.ref (o0)), some (.ref (2))] [.retAddr 15, .ref (2)] u2 [] (by decide +kernel) (by refine qt_aload_n (r := 2) rfl ?_; refine qt_ldcS ?_; exact qt_z rfl rfl rfl rfl rfl) trivial ?_
    refine s_callV (a := 0) (a' := 0) (As := [.retAddr 15]) (id := 2) (st := []) kX10_was l_5_75 (by decide +kernel) (q_id_of rfl) rfl (Nat.le_of_ble_eq_true rfl) (s_mono h (s_I_of (fun v3 u4 h => ?_)) (fun _ _ h9 => h9))
    show s_Ex (d + 1) 0 mX5_readName 23 [some (.ref (o0)), some (.ref (2))] [.int (v3)] u4 Q X
    refine s_if (cd := .eq) (off := 12) 35 (by decide +kernel) (by decide) (fun hc => ?_) (fun hc => ?_)
    · replace h := h.1 hc
      refine s_blk [(.aload_n 1, 1, 0, 0), (.ldc 101, 2, 1, 16)] 38 [some (.ref (o0)), some (.ref (2))] [.retAddr 16, .ref (2)] u4 [] (by decide +kernel) (by refine qt_aload_n (r := 2) rfl ?_; refine qt_ldcS ?_; exact qt_z rfl rfl rfl rfl rfl) trivial ?_
      refine s_callV (a := 0) (a' := 0) (As := [.retAddr 16]) (id := 2) (st := []) kX10_was l_5_75 (by decide +kernel) (q_id_of rfl) rfl (Nat.le_of_ble_eq_true rfl) (s_mono h (s_I_of (fun v5 u6 h => ?_)) (fun _ _ h9 => h9))
      show s_Ex (d + 1) 0 mX5_readName 41 [some (.ref (o0)), some (.ref (2))] [.int (v5)] u6 Q X
      refine s_if (cd := .eq) (off := 12) 53 (by decide +kernel) (by decide) (fun hc => ?_) (fun hc => ?_)
      · replace h := h.1 hc
        refine s_blk [(.aload_n 1, 1, 0, 0), (.ldc 103, 2, 1, 17)] 56 [some (.ref (o0)), some (.ref (2))] [.retAddr 17, .ref (2)] u6 [] (by decide +kernel) (by refine qt_aload_n (r := 2) rfl ?_; refine qt_ldcS ?_; exact qt_z rfl rfl rfl rfl rfl) trivial ?_
        refine s_callV (a := 0) (a' := 0) (As := [.retAddr 17]) (id := 2) (st := []) kX10_was l_5_75 (by decide +kernel) (q_id_of rfl) rfl (Nat.le_of_ble_eq_true rfl) (s_mono h (s_I_of (fun v7 u8 h => ?_)) (fun _ _ h9 => h9))
        show s_Ex (d + 1) 0 mX5_readName 59 [some (.ref (o0)), some (.ref (2))] [.int (v7)] u8 Q X
        refine s_if (cd := .eq) (off := 12) 71 (by decide +kernel) (by decide) (fun hc => ?_) (fun hc => ?_)
        · replace h := h.1 hc
          refine s_blk [(.aload_n 1, 1, 0, 0), (.ldc 105, 2, 1, 18)] 74 [some (.ref (o0)), some (.ref (2))] [.retAddr 18, .ref (2)] u8 [] (by decide +kernel) (by refine qt_aload_n (r := 2) rfl ?_; refine qt_ldcS ?_; exact qt_z rfl rfl rfl rfl rfl) trivial ?_
          refine s_callV (a := 0) (a' := 0) (As := [.retAddr 18]) (id := 2) (st := []) kX10_was l_5_75 (by decide +kernel) (q_id_of rfl) rfl (Nat.le_of_ble_eq_true rfl) (s_mono h (s_I_of (fun v9 u10 h => ?_)) (fun _ _ h9 => h9))
          show s_Ex (d + 1) 0 mX5_readName 77 [some (.ref (o0)), some (.ref (2))] [.int (v9)] u10 Q X
          refine s_if (cd := .eq) (off := 12) 89 (by decide +kernel) (by decide) (fun hc => ?_) (fun hc => ?_)
          · replace h := h.1 hc
            refine s_blk [(.aload_n 1, 1, 0, 0), (.ldc 107, 2, 1, 19)] 92 [some (.ref (o0)), some (.ref (2))] [.retAddr 19, .ref (2)] u10 [] (by decide +kernel) (by refine qt_aload_n (r := 2) rfl ?_; refine qt_ldcS ?_; exact qt_z rfl rfl rfl rfl rfl) trivial ?_
            refine s_callV (a := 0) (a' := 0) (As := [.retAddr 19]) (id := 2) (st := []) kX10_was l_5_75 (by decide +kernel) (q_id_of rfl) rfl (Nat.le_of_ble_eq_true rfl) (s_mono h (s_I_of (fun v11 u12 h => ?_)) (fun _ _ h9 => h9))
            show s_Ex (d + 1) 0 mX5_readName 95 [some (.ref (o0)), some (.ref (2))] [.int (v11)] u12 Q X
            refine s_if (cd := .eq) (off := 12) 107 (by decide +kernel) (by decide) (fun hc => ?_) (fun hc => ?_)
            · replace h := h.1 hc
              refine s_blk [(.aload_n 1, 1, 0, 0), (.ldc 109, 2, 1, 20)] 110 [some (.ref (o0)), some (.ref (2))] [.retAddr 20, .ref (2)] u12 [] (by decide +kernel) (by refine qt_aload_n (r := 2) rfl ?_; refine qt_ldcS ?_; exact qt_z rfl rfl rfl rfl rfl) trivial ?_
              refine s_callV (a := 0) (a' := 0) (As := [.retAddr 20]) (id := 2) (st := []) kX10_was l_5_75 (by decide +kernel) (q_id_of rfl) rfl (Nat.le_of_ble_eq_true rfl) (s_mono h (s_I_of (fun v13 u14 h => ?_)) (fun _ _ h9 => h9))
              show s_Ex (d + 1) 0 mX5_readName 113 [some (.ref (o0)), some (.ref (2))] [.int (v13)] u14 Q X
              refine s_if (cd := .eq) (off := 12) 125 (by decide +kernel) (by decide) (fun hc => ?_) (fun hc => ?_)
              · replace h := h.1 hc
                refine s_blk [(.aload_n 1, 1, 0, 0), (.iconst 1, 1, 0, 0), (.aload_n 1, 1, 0, 0)] 128 [some (.ref (o0)), some (.ref (2))] [.ref (2), .int (1), .ref (2)] u14 [] (by decide +kernel) (by refine qt_aload_n (r := 2) rfl ?_; refine qt_iconst qc_1 ?_; refine qt_aload_n (r := 2) rfl ?_; exact qt_z rfl rfl rfl rfl rfl) trivial ?_
                refine s_callV (a := 0) (a' := 0) (As := []) (id := 2) (st := [.int (1), .ref (2)]) kX10_startOfLast l_5_89 (by decide +kernel) (q_id_of rfl) rfl (Nat.le_of_ble_eq_true rfl) (s_mono h (s_I_of (fun v15 u16 h => ?_)) (fun _ _ h9 => h9))
                show s_Ex (d + 1) 0 mX5_readName 131 [some (.ref (o0)), some (.ref (2))] [.int (v15), .int (1), .ref (2)] u16 Q X
                refine s_callV (a := 0) (a' := 0) (As := [.int (1), .int (v15)]) (id := 2) (st := []) kX10_blame l_5_93 (by decide +kernel) (q_id_of rfl) rfl (Nat.le_of_ble_eq_true rfl) (s_mono h (s_V_of (fun u18 h => ?_)) (fun _ _ h9 => h9))
                show s_Ex (d + 1) 0 mX5_readName 134 [some (.ref (o0)), some (.ref (2))] [] u18 Q X
                exact s_retV (by decide +kernel) rfl h
              · replace h := h.2 hc
                refine s_blk [(.aload_n 0, 1, 0, 0), (.bipush (-7), 2, 0, 0)] 119 [some (.ref (o0)), some (.ref (2))] [.int (-7), .ref (o0)] u14 [] (by decide +kernel) (by refine qt_aload_n (r := o0) rfl ?_; refine qt_bipush qb_m7 ?_; exact qt_z rfl rfl rfl rfl rfl) trivial ?_
                obtain ⟨hid, h⟩ := h
                refine s_callV (a := 0) (a' := 0) (As := [.int (-7)]) (id := o0) (st := []) kX5_emit l_5_28 (by decide +kernel) hid rfl (Nat.le_of_ble_eq_true rfl) (s_mono h (s_V_of (fun u20 h => ?_)) (fun _ _ h9 => h9))
                show s_Ex (d + 1) 0 mX5_readName 122 [some (.ref (o0)), some (.ref (2))] [] u20 Q X
                refine s_blk [(.goto 12, 3, 134, 0)] 134 [some (.ref (o0)), some (.ref (2))] [] u20 [] (by decide +kernel) (by refine qt_goto ?_; exact qt_z rfl rfl rfl rfl rfl) trivial ?_
                exact s_retV (by decide +kernel) rfl h
            · replace h := h.2 hc
              refine s_blk [(.aload_n 0, 1, 0, 0), (.bipush (-6), 2, 0, 0)] 101 [some (.ref (o0)), some (.ref (2))] [.int (-6), .ref (o0)] u12 [] (by decide +kernel) (by refine qt_aload_n (r := o0) rfl ?_; refine qt_bipush qb_m6 ?_; exact qt_z rfl rfl rfl rfl rfl) trivial ?_
              obtain ⟨hid, h⟩ := h
              refine s_callV (a := 0) (a' := 0) (As := [.int (-6)]) (id := o0) (st := []) kX5_emit l_5_28 (by decide +kernel) hid rfl (Nat.le_of_ble_eq_true rfl) (s_mono h (s_V_of (fun u22 h => ?_)) (fun _ _ h9 => h9))
              show s_Ex (d + 1) 0 mX5_readName 104 [some (.ref (o0)), some (.ref (2))] [] u22 Q X
              refine s_blk [(.goto 30, 3, 134, 0)] 134 [some (.ref (o0)), some (.ref (2))] [] u22 [] (by decide +kernel) (by refine qt_goto ?_; exact qt_z rfl rfl rfl rfl rfl) trivial ?_
              exact s_retV (by decide +kernel) rfl h
          · replace h := h.2 hc
            refine s_blk [(.aload_n 0, 1, 0, 0), (.bipush (-5), 2, 0, 0)] 83 [some (.ref (o0)), some (.ref (2))] [.int (-5), .ref (o0)] u10 [] (by decide +kernel) (by refine qt_aload_n (r := o0) rfl ?_; refine qt_bipush qb_m5 ?_; exact qt_z rfl rfl rfl rfl rfl) trivial ?_
            obtain ⟨hid, h⟩ := h
            refine s_callV (a := 0) (a' := 0) (As := [.int (-5)]) (id := o0) (st := []) kX5_emit l_5_28 (by decide +kernel) hid rfl (Nat.le_of_ble_eq_true rfl) (s_mono h (s_V_of (fun u24 h => ?_)) (fun _ _ h9 => h9))
            show s_Ex (d + 1) 0 mX5_readName 86 [some (.ref (o0)), some (.ref (2))] [] u24 Q X
            refine s_blk [(.goto 48, 3, 134, 0)] 134 [some (.ref (o0)), some (.ref (2))] [] u24 [] (by decide +kernel) (by refine qt_goto ?_; exact qt_z rfl rfl rfl rfl rfl) trivial ?_
            exact s_retV (by decide +kernel) rfl h
        · replace h := h.2 hc
          refine s_blk [(.aload_n 0, 1, 0, 0), (.bipush (-4), 2, 0, 0)] 65 [some (.ref (o0)), some (.ref (2))] [.int (-4), .ref (o0)] u8 [] (by decide +kernel) (by refine qt_aload_n (r := o0) rfl ?_; refine qt_bipush qb_m4 ?_; exact qt_z rfl rfl rfl rfl rfl) trivial ?_
          obtain ⟨hid, h⟩ := h
          refine s_callV (a := 0) (a' := 0) (As := [.int (-4)]) (id := o0) (st := []) kX5_emit l_5_28 (by decide +kernel) hid rfl (Nat.le_of_ble_eq_true rfl) (s_mono h (s_V_of (fun u26 h => ?_)) (fun _ _ h9 => h9))
          show s_Ex (d + 1) 0 mX5_readName 68 [some (.ref (o0)), some (.ref (2))] [] u26 Q X
          refine s_blk [(.goto 66, 3, 134, 0)] 134 [some (.ref (o0)), some (.ref (2))] [] u26 [] (by decide +kernel) (by refine qt_goto ?_; exact qt_z rfl rfl rfl rfl rfl) trivial ?_
          exact s_retV (by decide +kernel) rfl h
      · replace h := h.2 hc
        refine s_blk [(.aload_n 0, 1, 0, 0), (.bipush (-3), 2, 0, 0)] 47 [some (.ref (o0)), some (.ref (2))] [.int (-3), .ref (o0)] u6 [] (by decide +kernel) (by refine qt_aload_n (r := o0) rfl ?_; refine qt_bipush qb_m3 ?_; exact qt_z rfl rfl rfl rfl rfl) trivial ?_
        obtain ⟨hid, h⟩ := h
        refine s_callV (a := 0) (a' := 0) (As := [.int (-3)]) (id := o0) (st := []) kX5_emit l_5_28 (by decide +kernel) hid rfl (Nat.le_of_ble_eq_true rfl) (s_mono h (s_V_of (fun u28 h => ?_)) (fun _ _ h9 => h9))
        show s_Ex (d + 1) 0 mX5_readName 50 [some (.ref (o0)), some (.ref (2))] [] u28 Q X
        refine s_blk [(.goto 84, 3, 134, 0)] 134 [some (.ref (o0)), some (.ref (2))] [] u28 [] (by decide +kernel) (by refine qt_goto ?_; exact qt_z rfl rfl rfl rfl rfl) trivial ?_
        exact s_retV (by decide +kernel) rfl h
    · replace h := h.2 hc
      refine s_blk [(.aload_n 0, 1, 0, 0), (.bipush (-2), 2, 0, 0)] 29 [some (.ref (o0)), some (.ref (2))] [.int (-2), .ref (o0)] u4 [] (by decide +kernel) (by refine qt_aload_n (r := o0) rfl ?_; refine qt_bipush qb_m2 ?_; exact qt_z rfl rfl rfl rfl rfl) trivial ?_
      obtain ⟨hid, h⟩ := h
      refine s_callV (a := 0) (a' := 0) (As := [.int (-2)]) (id := o0) (st := []) kX5_emit l_5_28 (by decide +kernel) hid rfl (Nat.le_of_ble_eq_true rfl) (s_mono h (s_V_of (fun u30 h => ?_)) (fun _ _ h9 => h9))
      show s_Ex (d + 1) 0 mX5_readName 32 [some (.ref (o0)), some (.ref (2))] [] u30 Q X
      refine s_blk [(.goto 102, 3, 134, 0)] 134 [some (.ref (o0)), some (.ref (2))] [] u30 [] (by decide +kernel) (by refine qt_goto ?_; exact qt_z rfl rfl rfl rfl rfl) trivial ?_
      exact s_retV (by decide +kernel) rfl h
  · replace h := h.2 hc
    refine s_blk [(.aload_n 0, 1, 0, 0), (.iconst (-1), 1, 0, 0)] 11 [some (.ref (o0)), some (.ref (2))] [.int (-1), .ref (o0)] u2 [] (by decide +kernel) (by refine qt_aload_n (r := o0) rfl ?_; refine qt_iconst qc_m1 ?_; exact qt_z rfl rfl rfl rfl rfl) trivial ?_
    obtain ⟨hid, h⟩ := h
    refine s_callV (a := 0) (a' := 0) (As := [.int (-1)]) (id := o0) (st := []) kX5_emit l_5_28 (by decide +kernel) hid rfl (Nat.le_of_ble_eq_true rfl) (s_mono h (s_V_of (fun u32 h => ?_)) (fun _ _ h9 => h9))
    show s_Ex (d + 1) 0 mX5_readName 14 [some (.ref (o0)), some (.ref (2))] [] u32 Q X
    refine s_blk [(.goto 120, 3, 134, 0)] 134 [some (.ref (o0)), some (.ref (2))] [] u32 [] (by decide +kernel) (by refine qt_goto ?_; exact qt_z rfl rfl rfl rfl rfl) trivial ?_
    exact s_retV (by decide +kernel) rfl h
theorem eX5_readName {d : Nat} {o0 : Nat} {w : q_Sm} {Q : s_Po} {X : s_Xo} (h : vX5_readName_0 d o0 w Q X) : s_Ev (d + 1) 0 mX5_readName w [.ref (o0), .ref (2)] Q X := s_of (by decide) rfl (Nat.le_of_ble_eq_true rfl) (xX5_readName_0 h)
def vX5_emit_0 (d : Nat) (o0 : Nat) (x1 : Int32) (w : q_Sm) (Q : s_Po) (X : s_Xo) : Prop := (q_id 116 5 o0) ∧ ((150 ≤ (w.1 o0 1)) → Q none w) ∧ (¬ (150 ≤ (w.1 o0 1)) → (q_id 116 5 o0) ∧ (q_id 116 5 o0) ∧ (q_id 116 14 (o0 + 1)) ∧ (vp_in (w.1 o0 1) (q_sh (o0 + 1)).2) ∧ ∀ w_1 : q_Sm, w_1 = q_wI w (o0 + 1) (Int32.toNatClampNeg (w.1 o0 1)) x1 → (q_id 116 5 o0) ∧ (q_id 116 5 o0) ∧ ∀ w_2 : q_Sm, w_2 = q_wI w_1 o0 1 ((w_1.1 o0 1) + 1) → Q none w_2)
theorem xX5_emit_0 {d : Nat} {o0 : Nat} {x1 : Int32} {w : q_Sm} {Q : s_Po} {X : s_Xo} (h : vX5_emit_0 d o0 x1 w Q X) : s_Ex (d + 1) 0 mX5_emit 0 [some (.ref (o0)), some (.int (x1))] [] w Q X := by
  unfold vX5_emit_0 at h
  obtain ⟨ho9, h⟩ := h
  refine s_blk [(.aload_n 0, 1, 0, 0), (.getfield 24, 3, 5, 1), (.sipush 150, 3, 0, 0)] 7 [some (.ref (o0)), some (.int (x1))] [.int (150), .int (w.1 o0 1)] w [q_id 116 5 o0] (by decide +kernel) (by refine qt_aload_n (r := o0) rfl ?_; refine qt_getI rfl ?_; refine qt_sipush qs_150 ?_; exact qt_z rfl rfl rfl rfl rfl) ho9 ?_
  refine s_icmp (cd := .ge) (off := 23) 30 (by decide +kernel) (by decide) (fun hc => ?_) (fun hc => ?_)
  · replace h := h.1 hc
    exact s_retV (by decide +kernel) rfl h
  · replace h := h.2 hc
    obtain ⟨ho3, h⟩ := h
    obtain ⟨ho4, h⟩ := h
    obtain ⟨ho5, h⟩ := h
    obtain ⟨ho6, h⟩ := h
    replace h := h _ rfl
    obtain ⟨ho7, h⟩ := h
    obtain ⟨ho8, h⟩ := h
    replace h := h _ rfl
    refine s_blk [(.aload_n 0, 1, 0, 0), (.getfield 9, 3, 5, 0), (.aload_n 0, 1, 0, 0), (.getfield 24, 3, 5, 1), (.iload_n 1, 1, 0, 0), (.iastore, 1, 0, 0), (.aload_n 0, 1, 0, 0), (.dup, 1, 0, 0), (.getfield 24, 3, 5, 1), (.iconst 1, 1, 0, 0), (.iadd, 1, 0, 0), (.putfield 24, 3, 5, 1)] 30 [some (.ref (o0)), some (.int (x1))] [] (q_wI (q_wI w (o0 + 1) (Int32.toNatClampNeg (w.1 o0 1)) x1) o0 1 (((q_wI w (o0 + 1) (Int32.toNatClampNeg (w.1 o0 1)) x1).1 o0 1) + 1)) [q_id 116 5 o0, q_id 116 5 o0, q_id 116 14 (o0 + 1), vp_in (w.1 o0 1) (q_sh (o0 + 1)).2, q_id 116 5 o0, q_id 116 5 o0] (by decide +kernel) (by refine qt_aload_n (r := o0) rfl ?_; refine qt_getR (r := o0 + 1) rfl rfl ?_; refine qt_aload_n (r := o0) rfl ?_; refine qt_getI rfl ?_; refine qt_iload_n (x := x1) rfl ?_; refine qt_iast ?_; refine qt_aload_n (r := o0) rfl ?_; refine qt_dupR ?_; refine qt_getI rfl ?_; refine qt_iconst qc_1 ?_; refine qt_iadd ?_; refine qt_putI rfl ?_; exact qt_z rfl rfl rfl rfl rfl) ⟨ho3, ho4, ho5, ho6, ho7, ho8⟩ ?_
    exact s_retV (by decide +kernel) rfl h
theorem eX5_emit {d : Nat} {o0 : Nat} {x1 : Int32} {w : q_Sm} {Q : s_Po} {X : s_Xo} (h : vX5_emit_0 d o0 x1 w Q X) : s_Ev (d + 1) 0 mX5_emit w [.ref (o0), .int (x1)] Q X := s_of (by decide) rfl (Nat.le_of_ble_eq_true rfl) (xX5_emit_0 h)
def vX1_clear_0 (d : Nat) (o0 : Nat) (w : q_Sm) (Q : s_Po) (X : s_Xo) : Prop := (q_id 116 1 o0) ∧ ∀ w_1 : q_Sm, w_1 = q_wI w o0 0 0 → Q none w_1
theorem xX1_clear_0 {d : Nat} {o0 : Nat} {w : q_Sm} {Q : s_Po} {X : s_Xo} (h : vX1_clear_0 d o0 w Q X) : s_Ex (d + 1) 0 mX1_clear 0 [some (.ref (o0))] [] w Q X := by
  unfold vX1_clear_0 at h
  obtain ⟨ho2, h⟩ := h
  replace h := h _ rfl
  refine s_blk [(.aload_n 0, 1, 0, 0), (.iconst 0, 1, 0, 0), (.putfield 21, 3, 1, 0)] 5 [some (.ref (o0))] [] (q_wI w o0 0 0) [q_id 116 1 o0] (by decide +kernel) (by refine qt_aload_n (r := o0) rfl ?_; refine qt_iconst qc_0 ?_; refine qt_putI rfl ?_; exact qt_z rfl rfl rfl rfl rfl) ho2 ?_
  exact s_retV (by decide +kernel) rfl h
theorem eX1_clear {d : Nat} {o0 : Nat} {w : q_Sm} {Q : s_Po} {X : s_Xo} (h : vX1_clear_0 d o0 w Q X) : s_Ev (d + 1) 0 mX1_clear w [.ref (o0)] Q X := s_of (by decide) rfl (Nat.le_of_ble_eq_true rfl) (xX1_clear_0 h)
def vX1_read_0 (d : Nat) (o0 : Nat) (w : q_Sm) (Q : s_Po) (X : s_Xo) : Prop := q_id 116 1 o0 ∧ s_EvV d 0 mX1_clear w [.ref (o0)] (fun u2 => s_Ex (d + 1) 0 mX1_read 6 [some (.ref (o0)), some (.ref (2)), some (.int (0))] [] u2 Q X) X
def vX1_read_6 (d : Nat) (o0 : Nat) (x2 : Int32) (w : q_Sm) (Q : s_Po) (X : s_Xo) : Prop := ((10 < x2) → Q none w) ∧ (¬ (10 < x2) → s_EvI d 0 mX10_goesOn w [.ref (2)] (fun v3 u4 => ((v3 = 0) → Q none u4) ∧ (¬ (v3 = 0) → q_id 116 1 o0 ∧ s_EvV d 0 mX1_readLine u4 [.ref (o0), .ref (2)] (fun u6 => s_EvV d 0 mX10_need u6 [.ref (2), .int (59)] (fun u8 => s_Ex (d + 1) 0 mX1_read 6 [some (.ref (o0)), some (.ref (2)), some (.int (x2 + 1))] [] u8 Q X) X) X)) X)
theorem xX1_read_0 {d : Nat} {o0 : Nat} {w : q_Sm} {Q : s_Po} {X : s_Xo} (h : vX1_read_0 d o0 w Q X) : s_Ex (d + 1) 0 mX1_read 0 [some (.ref (o0)), some (.ref (2)), none] [] w Q X := by
  unfold vX1_read_0 at h
  refine s_blk [(.aload_n 0, 1, 0, 0)] 1 [some (.ref (o0)), some (.ref (2)), none] [.ref (o0)] w [] (by decide +kernel) (by refine qt_aload_n (r := o0) rfl ?_; exact qt_z rfl rfl rfl rfl rfl) trivial ?_
  obtain ⟨hid, h⟩ := h
  refine s_callV (a := 0) (a' := 0) (As := []) (id := o0) (st := []) kX1_clear l_1_25 (by decide +kernel) hid rfl (Nat.le_of_ble_eq_true rfl) (s_mono h (s_V_of (fun u2 h => ?_)) (fun _ _ h9 => h9))
  show s_Ex (d + 1) 0 mX1_read 4 [some (.ref (o0)), some (.ref (2)), none] [] u2 Q X
  refine s_blk [(.iconst 0, 1, 0, 0), (.istore_n 2, 1, 0, 0)] 6 [some (.ref (o0)), some (.ref (2)), some (.int (0))] [] u2 [] (by decide +kernel) (by refine qt_iconst qc_0 ?_; refine qt_istore_n (L' := [some (.ref (o0)), some (.ref (2)), some (.int (0))]) rfl ?_; exact qt_z rfl rfl rfl rfl rfl) trivial ?_
  exact h
theorem xX1_read_6 {d : Nat} {o0 : Nat} {x2 : Int32} {w : q_Sm} {Q : s_Po} {X : s_Xo} (h : vX1_read_6 d o0 x2 w Q X) : s_Ex (d + 1) 0 mX1_read 6 [some (.ref (o0)), some (.ref (2)), some (.int (x2))] [] w Q X := by
  unfold vX1_read_6 at h
  refine s_blk [(.iload_n 2, 1, 0, 0), (.bipush 10, 2, 0, 0)] 9 [some (.ref (o0)), some (.ref (2)), some (.int (x2))] [.int (10), .int (x2)] w [] (by decide +kernel) (by refine qt_iload_n (x := x2) rfl ?_; refine qt_bipush qb_10 ?_; exact qt_z rfl rfl rfl rfl rfl) trivial ?_
  refine s_icmp (cd := .gt) (off := 27) 36 (by decide +kernel) (by decide) (fun hc => ?_) (fun hc => ?_)
  · replace h := h.1 hc
    exact s_retV (by decide +kernel) rfl h
  · replace h := h.2 hc
    refine s_blk [(.aload_n 1, 1, 0, 0)] 13 [some (.ref (o0)), some (.ref (2)), some (.int (x2))] [.ref (2)] w [] (by decide +kernel) (by refine qt_aload_n (r := 2) rfl ?_; exact qt_z rfl rfl rfl rfl rfl) trivial ?_
    refine s_callV (a := 0) (a' := 0) (As := []) (id := 2) (st := []) kX10_goesOn l_1_28 (by decide +kernel) (q_id_of rfl) rfl (Nat.le_of_ble_eq_true rfl) (s_mono h (s_I_of (fun v3 u4 h => ?_)) (fun _ _ h9 => h9))
    show s_Ex (d + 1) 0 mX1_read 16 [some (.ref (o0)), some (.ref (2)), some (.int (x2))] [.int (v3)] u4 Q X
    refine s_if (cd := .eq) (off := 20) 36 (by decide +kernel) (by decide) (fun hc => ?_) (fun hc => ?_)
    · replace h := h.1 hc
      exact s_retV (by decide +kernel) rfl h
    · replace h := h.2 hc
      refine s_blk [(.aload_n 0, 1, 0, 0), (.aload_n 1, 1, 0, 0)] 21 [some (.ref (o0)), some (.ref (2)), some (.int (x2))] [.ref (2), .ref (o0)] u4 [] (by decide +kernel) (by refine qt_aload_n (r := o0) rfl ?_; refine qt_aload_n (r := 2) rfl ?_; exact qt_z rfl rfl rfl rfl rfl) trivial ?_
      obtain ⟨hid, h⟩ := h
      refine s_callV (a := 0) (a' := 0) (As := [.ref (2)]) (id := o0) (st := []) kX1_readLine l_1_34 (by decide +kernel) hid rfl (Nat.le_of_ble_eq_true rfl) (s_mono h (s_V_of (fun u6 h => ?_)) (fun _ _ h9 => h9))
      show s_Ex (d + 1) 0 mX1_read 24 [some (.ref (o0)), some (.ref (2)), some (.int (x2))] [] u6 Q X
      refine s_blk [(.aload_n 1, 1, 0, 0), (.bipush 59, 2, 0, 0)] 27 [some (.ref (o0)), some (.ref (2)), some (.int (x2))] [.int (59), .ref (2)] u6 [] (by decide +kernel) (by refine qt_aload_n (r := 2) rfl ?_; refine qt_bipush qb_59 ?_; exact qt_z rfl rfl rfl rfl rfl) trivial ?_
      refine s_callV (a := 0) (a' := 0) (As := [.int (59)]) (id := 2) (st := []) kX10_need l_1_38 (by decide +kernel) (q_id_of rfl) rfl (Nat.le_of_ble_eq_true rfl) (s_mono h (s_V_of (fun u8 h => ?_)) (fun _ _ h9 => h9))
      show s_Ex (d + 1) 0 mX1_read 30 [some (.ref (o0)), some (.ref (2)), some (.int (x2))] [] u8 Q X
      refine s_blk [(.iinc 2 1, 3, 0, 0), (.goto (-27), 3, 6, 0)] 6 [some (.ref (o0)), some (.ref (2)), some (.int (x2 + 1))] [] u8 [] (by decide +kernel) (by refine qt_iinc (x := x2) (L' := [some (.ref (o0)), some (.ref (2)), some (.int (x2 + 1))]) rfl qc_1 rfl ?_; refine qt_goto ?_; exact qt_z rfl rfl rfl rfl rfl) trivial ?_
      exact h
theorem eX1_read {d : Nat} {o0 : Nat} {w : q_Sm} {Q : s_Po} {X : s_Xo} (h : vX1_read_0 d o0 w Q X) : s_Ev (d + 1) 0 mX1_read w [.ref (o0), .ref (2)] Q X := s_of (by decide) rfl (Nat.le_of_ble_eq_true rfl) (xX1_read_0 h)
def vX1_readLine_0 (d : Nat) (o0 : Nat) (w : q_Sm) (Q : s_Po) (X : s_Xo) : Prop := s_EvI d 0 mX10_number w [.ref (2), .int (0), .int (60)] (fun v1 u2 => (q_id 116 1 o0) ∧ (((u2.1 o0 0) < 10) → s_EvI d 0 mX10_colour u2 [.ref (2)] (fun v3 u4 => s_EvI d 0 mX10_number u4 [.ref (2), .int (0), .int (40)] (fun v5 u6 => s_EvI d 0 mX10_failed u6 [.ref (2)] (fun v7 u8 => ((¬ v7 = 0) → Q none u8) ∧ (¬ (¬ v7 = 0) → (q_id 116 1 o0) ∧ ((10 ≤ (u8.1 o0 0)) → Q none u8) ∧ (¬ (10 ≤ (u8.1 o0 0)) → (q_id 116 1 o0) ∧ (q_id 116 1 o0) ∧ (q_id 116 14 (o0 + 1)) ∧ (vp_in (u8.1 o0 0) (q_sh (o0 + 1)).2) ∧ ∀ w_9 : q_Sm, w_9 = q_wI u8 (o0 + 1) (Int32.toNatClampNeg (u8.1 o0 0)) v1 → (q_id 116 1 o0) ∧ (q_id 116 1 o0) ∧ (q_id 116 14 (o0 + 2)) ∧ (vp_in (w_9.1 o0 0) (q_sh (o0 + 2)).2) ∧ ∀ w_10 : q_Sm, w_10 = q_wI w_9 (o0 + 2) (Int32.toNatClampNeg (w_9.1 o0 0)) v3 → (q_id 116 1 o0) ∧ (q_id 116 1 o0) ∧ (q_id 116 14 (o0 + 3)) ∧ (vp_in (w_10.1 o0 0) (q_sh (o0 + 3)).2) ∧ ∀ w_11 : q_Sm, w_11 = q_wI w_10 (o0 + 3) (Int32.toNatClampNeg (w_10.1 o0 0)) v5 → (q_id 116 1 o0) ∧ (q_id 116 1 o0) ∧ ∀ w_12 : q_Sm, w_12 = q_wI w_11 o0 0 ((w_11.1 o0 0) + 1) → Q none w_12))) X) X) X) ∧ (¬ ((u2.1 o0 0) < 10) → s_EvI d 0 mX10_startOfLast u2 [.ref (2)] (fun v28 u29 => s_EvV d 0 mX10_blame u29 [.ref (2), .int (3), .int (v28)] (fun u31 => s_EvI d 0 mX10_colour u31 [.ref (2)] (fun v32 u33 => s_EvI d 0 mX10_number u33 [.ref (2), .int (0), .int (40)] (fun v34 u35 => s_EvI d 0 mX10_failed u35 [.ref (2)] (fun v36 u37 => ((¬ v36 = 0) → Q none u37) ∧ (¬ (¬ v36 = 0) → (q_id 116 1 o0) ∧ ((10 ≤ (u37.1 o0 0)) → Q none u37) ∧ (¬ (10 ≤ (u37.1 o0 0)) → (q_id 116 1 o0) ∧ (q_id 116 1 o0) ∧ (q_id 116 14 (o0 + 1)) ∧ (vp_in (u37.1 o0 0) (q_sh (o0 + 1)).2) ∧ ∀ w_38 : q_Sm, w_38 = q_wI u37 (o0 + 1) (Int32.toNatClampNeg (u37.1 o0 0)) v1 → (q_id 116 1 o0) ∧ (q_id 116 1 o0) ∧ (q_id 116 14 (o0 + 2)) ∧ (vp_in (w_38.1 o0 0) (q_sh (o0 + 2)).2) ∧ ∀ w_39 : q_Sm, w_39 = q_wI w_38 (o0 + 2) (Int32.toNatClampNeg (w_38.1 o0 0)) v32 → (q_id 116 1 o0) ∧ (q_id 116 1 o0) ∧ (q_id 116 14 (o0 + 3)) ∧ (vp_in (w_39.1 o0 0) (q_sh (o0 + 3)).2) ∧ ∀ w_40 : q_Sm, w_40 = q_wI w_39 (o0 + 3) (Int32.toNatClampNeg (w_39.1 o0 0)) v34 → (q_id 116 1 o0) ∧ (q_id 116 1 o0) ∧ ∀ w_41 : q_Sm, w_41 = q_wI w_40 o0 0 ((w_40.1 o0 0) + 1) → Q none w_41))) X) X) X) X) X)) X
theorem xX1_readLine_0 {d : Nat} {o0 : Nat} {w : q_Sm} {Q : s_Po} {X : s_Xo} (h : vX1_readLine_0 d o0 w Q X) : s_Ex (d + 1) 0 mX1_readLine 0 [some (.ref (o0)), some (.ref (2)), none, none, none] [] w Q X := by
  unfold vX1_readLine_0 at h
  refine s_blk [(.aload_n 1, 1, 0, 0), (.iconst 0, 1, 0, 0), (.bipush 60, 2, 0, 0)] 4 [some (.ref (o0)), some (.ref (2)), none, none, none] [.int (60), .int (0), .ref (2)] w [] (by decide +kernel) (by refine qt_aload_n (r := 2) rfl ?_; refine qt_iconst qc_0 ?_; refine qt_bipush qb_60 ?_; exact qt_z rfl rfl rfl rfl rfl) trivial ?_
  refine s_callV (a := 0) (a' := 0) (As := [.int (0), .int (60)]) (id := 2) (st := []) kX10_number l_1_42 (by decide +kernel) (q_id_of rfl) rfl (Nat.le_of_ble_eq_true rfl) (s_mono h (s_I_of (fun v1 u2 h => ?_)) (fun _ _ h9 => h9))
  show s_Ex (d + 1) 0 mX1_readLine 7 [some (.ref (o0)), some (.ref (2)), none, none, none] [.int (v1)] u2 Q X
  obtain ⟨ho57, h⟩ := h
  refine s_blk [(.istore_n 2, 1, 0, 0), (.aload_n 0, 1, 0, 0), (.getfield 21, 3, 1, 0), (.bipush 10, 2, 0, 0)] 14 [some (.ref (o0)), some (.ref (2)), some (.int (v1)), none, none] [.int (10), .int (u2.1 o0 0)] u2 [q_id 116 1 o0] (by decide +kernel) (by refine qt_istore_n (L' := [some (.ref (o0)), some (.ref (2)), some (.int (v1)), none, none]) rfl ?_; refine qt_aload_n (r := o0) rfl ?_; refine qt_getI rfl ?_; refine qt_bipush qb_10 ?_; exact qt_z rfl rfl rfl rfl rfl) ho57 ?_
  refine s_icmp (cd := .lt) (off := 12) 26 (by decide +kernel) (by decide) (fun hc => ?_) (fun hc => ?_)
  · replace h := h.1 hc
    refine s_blk [(.aload_n 1, 1, 0, 0)] 27 [some (.ref (o0)), some (.ref (2)), some (.int (v1)), none, none] [.ref (2)] u2 [] (by decide +kernel) (by refine qt_aload_n (r := 2) rfl ?_; exact qt_z rfl rfl rfl rfl rfl) trivial ?_
    refine s_callV (a := 0) (a' := 0) (As := []) (id := 2) (st := []) kX10_colour l_1_54 (by decide +kernel) (q_id_of rfl) rfl (Nat.le_of_ble_eq_true rfl) (s_mono h (s_I_of (fun v3 u4 h => ?_)) (fun _ _ h9 => h9))
    show s_Ex (d + 1) 0 mX1_readLine 30 [some (.ref (o0)), some (.ref (2)), some (.int (v1)), none, none] [.int (v3)] u4 Q X
    refine s_blk [(.istore_n 3, 1, 0, 0), (.aload_n 1, 1, 0, 0), (.iconst 0, 1, 0, 0), (.bipush 40, 2, 0, 0)] 35 [some (.ref (o0)), some (.ref (2)), some (.int (v1)), some (.int (v3)), none] [.int (40), .int (0), .ref (2)] u4 [] (by decide +kernel) (by refine qt_istore_n (L' := [some (.ref (o0)), some (.ref (2)), some (.int (v1)), some (.int (v3)), none]) rfl ?_; refine qt_aload_n (r := 2) rfl ?_; refine qt_iconst qc_0 ?_; refine qt_bipush qb_40 ?_; exact qt_z rfl rfl rfl rfl rfl) trivial ?_
    refine s_callV (a := 0) (a' := 0) (As := [.int (0), .int (40)]) (id := 2) (st := []) kX10_number l_1_42 (by decide +kernel) (q_id_of rfl) rfl (Nat.le_of_ble_eq_true rfl) (s_mono h (s_I_of (fun v5 u6 h => ?_)) (fun _ _ h9 => h9))
    show s_Ex (d + 1) 0 mX1_readLine 38 [some (.ref (o0)), some (.ref (2)), some (.int (v1)), some (.int (v3)), none] [.int (v5)] u6 Q X
    refine s_blk [(.istore 4, 2, 0, 0), (.aload_n 1, 1, 0, 0)] 41 [some (.ref (o0)), some (.ref (2)), some (.int (v1)), some (.int (v3)), some (.int (v5))] [.ref (2)] u6 [] (by decide +kernel) (by refine qt_istore (L' := [some (.ref (o0)), some (.ref (2)), some (.int (v1)), some (.int (v3)), some (.int (v5))]) rfl ?_; refine qt_aload_n (r := 2) rfl ?_; exact qt_z rfl rfl rfl rfl rfl) trivial ?_
    refine s_callV (a := 0) (a' := 0) (As := []) (id := 2) (st := []) kX10_failed l_1_56 (by decide +kernel) (q_id_of rfl) rfl (Nat.le_of_ble_eq_true rfl) (s_mono h (s_I_of (fun v7 u8 h => ?_)) (fun _ _ h9 => h9))
    show s_Ex (d + 1) 0 mX1_readLine 44 [some (.ref (o0)), some (.ref (2)), some (.int (v1)), some (.int (v3)), some (.int (v5))] [.int (v7)] u8 Q X
    refine s_if (cd := .ne) (off := 53) 97 (by decide +kernel) (by decide) (fun hc => ?_) (fun hc => ?_)
    · replace h := h.1 hc
      exact s_retV (by decide +kernel) rfl h
    · replace h := h.2 hc
      obtain ⟨ho27, h⟩ := h
      refine s_blk [(.aload_n 0, 1, 0, 0), (.getfield 21, 3, 1, 0), (.bipush 10, 2, 0, 0)] 53 [some (.ref (o0)), some (.ref (2)), some (.int (v1)), some (.int (v3)), some (.int (v5))] [.int (10), .int (u8.1 o0 0)] u8 [q_id 116 1 o0] (by decide +kernel) (by refine qt_aload_n (r := o0) rfl ?_; refine qt_getI rfl ?_; refine qt_bipush qb_10 ?_; exact qt_z rfl rfl rfl rfl rfl) ho27 ?_
      refine s_icmp (cd := .ge) (off := 44) 97 (by decide +kernel) (by decide) (fun hc => ?_) (fun hc => ?_)
      · replace h := h.1 hc
        exact s_retV (by decide +kernel) rfl h
      · replace h := h.2 hc
        obtain ⟨ho13, h⟩ := h
        obtain ⟨ho14, h⟩ := h
        obtain ⟨ho15, h⟩ := h
        obtain ⟨ho16, h⟩ := h
        replace h := h _ rfl
        obtain ⟨ho17, h⟩ := h
        obtain ⟨ho18, h⟩ := h
        obtain ⟨ho19, h⟩ := h
        obtain ⟨ho20, h⟩ := h
        replace h := h _ rfl
        obtain ⟨ho21, h⟩ := h
        obtain ⟨ho22, h⟩ := h
        obtain ⟨ho23, h⟩ := h
        obtain ⟨ho24, h⟩ := h
        replace h := h _ rfl
        obtain ⟨ho25, h⟩ := h
        obtain ⟨ho26, h⟩ := h
        replace h := h _ rfl
        refine s_blk [(.aload_n 0, 1, 0, 0), (.getfield 9, 3, 1, 1), (.aload_n 0, 1, 0, 0), (.getfield 21, 3, 1, 0), (.iload_n 2, 1, 0, 0), (.iastore, 1, 0, 0), (.aload_n 0, 1, 0, 0), (.getfield 15, 3, 1, 2), (.aload_n 0, 1, 0, 0), (.getfield 21, 3, 1, 0), (.iload_n 3, 1, 0, 0), (.iastore, 1, 0, 0), (.aload_n 0, 1, 0, 0), (.getfield 18, 3, 1, 3), (.aload_n 0, 1, 0, 0), (.getfield 21, 3, 1, 0), (.iload 4, 2, 0, 0), (.iastore, 1, 0, 0), (.aload_n 0, 1, 0, 0), (.dup, 1, 0, 0), (.getfield 21, 3, 1, 0), (.iconst 1, 1, 0, 0), (.iadd, 1, 0, 0), (.putfield 21, 3, 1, 0)] 97 [some (.ref (o0)), some (.ref (2)), some (.int (v1)), some (.int (v3)), some (.int (v5))] [] (q_wI (q_wI (q_wI (q_wI u8 (o0 + 1) (Int32.toNatClampNeg (u8.1 o0 0)) v1) (o0 + 2) (Int32.toNatClampNeg ((q_wI u8 (o0 + 1) (Int32.toNatClampNeg (u8.1 o0 0)) v1).1 o0 0)) v3) (o0 + 3) (Int32.toNatClampNeg ((q_wI (q_wI u8 (o0 + 1) (Int32.toNatClampNeg (u8.1 o0 0)) v1) (o0 + 2) (Int32.toNatClampNeg ((q_wI u8 (o0 + 1) (Int32.toNatClampNeg (u8.1 o0 0)) v1).1 o0 0)) v3).1 o0 0)) v5) o0 0 (((q_wI (q_wI (q_wI u8 (o0 + 1) (Int32.toNatClampNeg (u8.1 o0 0)) v1) (o0 + 2) (Int32.toNatClampNeg ((q_wI u8 (o0 + 1) (Int32.toNatClampNeg (u8.1 o0 0)) v1).1 o0 0)) v3) (o0 + 3) (Int32.toNatClampNeg ((q_wI (q_wI u8 (o0 + 1) (Int32.toNatClampNeg (u8.1 o0 0)) v1) (o0 + 2) (Int32.toNatClampNeg ((q_wI u8 (o0 + 1) (Int32.toNatClampNeg (u8.1 o0 0)) v1).1 o0 0)) v3).1 o0 0)) v5).1 o0 0) + 1)) [q_id 116 1 o0, q_id 116 1 o0, q_id 116 14 (o0 + 1), vp_in (u8.1 o0 0) (q_sh (o0 + 1)).2, q_id 116 1 o0, q_id 116 1 o0, q_id 116 14 (o0 + 2), vp_in ((q_wI u8 (o0 + 1) (Int32.toNatClampNeg (u8.1 o0 0)) v1).1 o0 0) (q_sh (o0 + 2)).2, q_id 116 1 o0, q_id 116 1 o0, q_id 116 14 (o0 + 3), vp_in ((q_wI (q_wI u8 (o0 + 1) (Int32.toNatClampNeg (u8.1 o0 0)) v1) (o0 + 2) (Int32.toNatClampNeg ((q_wI u8 (o0 + 1) (Int32.toNatClampNeg (u8.1 o0 0)) v1).1 o0 0)) v3).1 o0 0) (q_sh (o0 + 3)).2, q_id 116 1 o0, q_id 116 1 o0] (by decide +kernel) (by refine qt_aload_n (r := o0) rfl ?_; refine qt_getR (r := o0 + 1) rfl rfl ?_; refine qt_aload_n (r := o0) rfl ?_; refine qt_getI rfl ?_; refine qt_iload_n (x := v1) rfl ?_; refine qt_iast ?_; refine qt_aload_n (r := o0) rfl ?_; refine qt_getR (r := o0 + 2) rfl rfl ?_; refine qt_aload_n (r := o0) rfl ?_; refine qt_getI rfl ?_; refine qt_iload_n (x := v3) rfl ?_; refine qt_iast ?_; refine qt_aload_n (r := o0) rfl ?_; refine qt_getR (r := o0 + 3) rfl rfl ?_; refine qt_aload_n (r := o0) rfl ?_; refine qt_getI rfl ?_; refine qt_iload (x := v5) rfl ?_; refine qt_iast ?_; refine qt_aload_n (r := o0) rfl ?_; refine qt_dupR ?_; refine qt_getI rfl ?_; refine qt_iconst qc_1 ?_; refine qt_iadd ?_; refine qt_putI rfl ?_; exact qt_z rfl rfl rfl rfl rfl) ⟨ho13, ho14, ho15, ho16, ho17, ho18, ho19, ho20, ho21, ho22, ho23, ho24, ho25, ho26⟩ ?_
        exact s_retV (by decide +kernel) rfl h
  · replace h := h.2 hc
    refine s_blk [(.aload_n 1, 1, 0, 0), (.iconst 3, 1, 0, 0), (.aload_n 1, 1, 0, 0)] 20 [some (.ref (o0)), some (.ref (2)), some (.int (v1)), none, none] [.ref (2), .int (3), .ref (2)] u2 [] (by decide +kernel) (by refine qt_aload_n (r := 2) rfl ?_; refine qt_iconst qc_3 ?_; refine qt_aload_n (r := 2) rfl ?_; exact qt_z rfl rfl rfl rfl rfl) trivial ?_
    refine s_callV (a := 0) (a' := 0) (As := []) (id := 2) (st := [.int (3), .ref (2)]) kX10_startOfLast l_1_46 (by decide +kernel) (q_id_of rfl) rfl (Nat.le_of_ble_eq_true rfl) (s_mono h (s_I_of (fun v28 u29 h => ?_)) (fun _ _ h9 => h9))
    show s_Ex (d + 1) 0 mX1_readLine 23 [some (.ref (o0)), some (.ref (2)), some (.int (v1)), none, none] [.int (v28), .int (3), .ref (2)] u29 Q X
    refine s_callV (a := 0) (a' := 0) (As := [.int (3), .int (v28)]) (id := 2) (st := []) kX10_blame l_1_50 (by decide +kernel) (q_id_of rfl) rfl (Nat.le_of_ble_eq_true rfl) (s_mono h (s_V_of (fun u31 h => ?_)) (fun _ _ h9 => h9))
    show s_Ex (d + 1) 0 mX1_readLine 26 [some (.ref (o0)), some (.ref (2)), some (.int (v1)), none, none] [] u31 Q X
    refine s_blk [(.aload_n 1, 1, 0, 0)] 27 [some (.ref (o0)), some (.ref (2)), some (.int (v1)), none, none] [.ref (2)] u31 [] (by decide +kernel) (by refine qt_aload_n (r := 2) rfl ?_; exact qt_z rfl rfl rfl rfl rfl) trivial ?_
    refine s_callV (a := 0) (a' := 0) (As := []) (id := 2) (st := []) kX10_colour l_1_54 (by decide +kernel) (q_id_of rfl) rfl (Nat.le_of_ble_eq_true rfl) (s_mono h (s_I_of (fun v32 u33 h => ?_)) (fun _ _ h9 => h9))
    show s_Ex (d + 1) 0 mX1_readLine 30 [some (.ref (o0)), some (.ref (2)), some (.int (v1)), none, none] [.int (v32)] u33 Q X
    refine s_blk [(.istore_n 3, 1, 0, 0), (.aload_n 1, 1, 0, 0), (.iconst 0, 1, 0, 0), (.bipush 40, 2, 0, 0)] 35 [some (.ref (o0)), some (.ref (2)), some (.int (v1)), some (.int (v32)), none] [.int (40), .int (0), .ref (2)] u33 [] (by decide +kernel) (by refine qt_istore_n (L' := [some (.ref (o0)), some (.ref (2)), some (.int (v1)), some (.int (v32)), none]) rfl ?_; refine qt_aload_n (r := 2) rfl ?_; refine qt_iconst qc_0 ?_; refine qt_bipush qb_40 ?_; exact qt_z rfl rfl rfl rfl rfl) trivial ?_
    refine s_callV (a := 0) (a' := 0) (As := [.int (0), .int (40)]) (id := 2) (st := []) kX10_number l_1_42 (by decide +kernel) (q_id_of rfl) rfl (Nat.le_of_ble_eq_true rfl) (s_mono h (s_I_of (fun v34 u35 h => ?_)) (fun _ _ h9 => h9))
    show s_Ex (d + 1) 0 mX1_readLine 38 [some (.ref (o0)), some (.ref (2)), some (.int (v1)), some (.int (v32)), none] [.int (v34)] u35 Q X
    refine s_blk [(.istore 4, 2, 0, 0), (.aload_n 1, 1, 0, 0)] 41 [some (.ref (o0)), some (.ref (2)), some (.int (v1)), some (.int (v32)), some (.int (v34))] [.ref (2)] u35 [] (by decide +kernel) (by refine qt_istore (L' := [some (.ref (o0)), some (.ref (2)), some (.int (v1)), some (.int (v32)), some (.int (v34))]) rfl ?_; refine qt_aload_n (r := 2) rfl ?_; exact qt_z rfl rfl rfl rfl rfl) trivial ?_
    refine s_callV (a := 0) (a' := 0) (As := []) (id := 2) (st := []) kX10_failed l_1_56 (by decide +kernel) (q_id_of rfl) rfl (Nat.le_of_ble_eq_true rfl) (s_mono h (s_I_of (fun v36 u37 h => ?_)) (fun _ _ h9 => h9))
    show s_Ex (d + 1) 0 mX1_readLine 44 [some (.ref (o0)), some (.ref (2)), some (.int (v1)), some (.int (v32)), some (.int (v34))] [.int (v36)] u37 Q X
    refine s_if (cd := .ne) (off := 53) 97 (by decide +kernel) (by decide) (fun hc => ?_) (fun hc => ?_)
    · replace h := h.1 hc
      exact s_retV (by decide +kernel) rfl h
    · replace h := h.2 hc
      obtain ⟨ho56, h⟩ := h
      refine s_blk [(.aload_n 0, 1, 0, 0), (.getfield 21, 3, 1, 0), (.bipush 10, 2, 0, 0)] 53 [some (.ref (o0)), some (.ref (2)), some (.int (v1)), some (.int (v32)), some (.int (v34))] [.int (10), .int (u37.1 o0 0)] u37 [q_id 116 1 o0] (by decide +kernel) (by refine qt_aload_n (r := o0) rfl ?_; refine qt_getI rfl ?_; refine qt_bipush qb_10 ?_; exact qt_z rfl rfl rfl rfl rfl) ho56 ?_
      refine s_icmp (cd := .ge) (off := 44) 97 (by decide +kernel) (by decide) (fun hc => ?_) (fun hc => ?_)
      · replace h := h.1 hc
        exact s_retV (by decide +kernel) rfl h
      · replace h := h.2 hc
        obtain ⟨ho42, h⟩ := h
        obtain ⟨ho43, h⟩ := h
        obtain ⟨ho44, h⟩ := h
        obtain ⟨ho45, h⟩ := h
        replace h := h _ rfl
        obtain ⟨ho46, h⟩ := h
        obtain ⟨ho47, h⟩ := h
        obtain ⟨ho48, h⟩ := h
        obtain ⟨ho49, h⟩ := h
        replace h := h _ rfl
        obtain ⟨ho50, h⟩ := h
        obtain ⟨ho51, h⟩ := h
        obtain ⟨ho52, h⟩ := h
        obtain ⟨ho53, h⟩ := h
        replace h := h _ rfl
        obtain ⟨ho54, h⟩ := h
        obtain ⟨ho55, h⟩ := h
        replace h := h _ rfl
        refine s_blk [(.aload_n 0, 1, 0, 0), (.getfield 9, 3, 1, 1), (.aload_n 0, 1, 0, 0), (.getfield 21, 3, 1, 0), (.iload_n 2, 1, 0, 0), (.iastore, 1, 0, 0), (.aload_n 0, 1, 0, 0), (.getfield 15, 3, 1, 2), (.aload_n 0, 1, 0, 0), (.getfield 21, 3, 1, 0), (.iload_n 3, 1, 0, 0), (.iastore, 1, 0, 0), (.aload_n 0, 1, 0, 0), (.getfield 18, 3, 1, 3), (.aload_n 0, 1, 0, 0), (.getfield 21, 3, 1, 0), (.iload 4, 2, 0, 0), (.iastore, 1, 0, 0), (.aload_n 0, 1, 0, 0), (.dup, 1, 0, 0), (.getfield 21, 3, 1, 0), (.iconst 1, 1, 0, 0), (.iadd, 1, 0, 0), (.putfield 21, 3, 1, 0)] 97 [some (.ref (o0)), some (.ref (2)), some (.int (v1)), some (.int (v32)), some (.int (v34))] [] (q_wI (q_wI (q_wI (q_wI u37 (o0 + 1) (Int32.toNatClampNeg (u37.1 o0 0)) v1) (o0 + 2) (Int32.toNatClampNeg ((q_wI u37 (o0 + 1) (Int32.toNatClampNeg (u37.1 o0 0)) v1).1 o0 0)) v32) (o0 + 3) (Int32.toNatClampNeg ((q_wI (q_wI u37 (o0 + 1) (Int32.toNatClampNeg (u37.1 o0 0)) v1) (o0 + 2) (Int32.toNatClampNeg ((q_wI u37 (o0 + 1) (Int32.toNatClampNeg (u37.1 o0 0)) v1).1 o0 0)) v32).1 o0 0)) v34) o0 0 (((q_wI (q_wI (q_wI u37 (o0 + 1) (Int32.toNatClampNeg (u37.1 o0 0)) v1) (o0 + 2) (Int32.toNatClampNeg ((q_wI u37 (o0 + 1) (Int32.toNatClampNeg (u37.1 o0 0)) v1).1 o0 0)) v32) (o0 + 3) (Int32.toNatClampNeg ((q_wI (q_wI u37 (o0 + 1) (Int32.toNatClampNeg (u37.1 o0 0)) v1) (o0 + 2) (Int32.toNatClampNeg ((q_wI u37 (o0 + 1) (Int32.toNatClampNeg (u37.1 o0 0)) v1).1 o0 0)) v32).1 o0 0)) v34).1 o0 0) + 1)) [q_id 116 1 o0, q_id 116 1 o0, q_id 116 14 (o0 + 1), vp_in (u37.1 o0 0) (q_sh (o0 + 1)).2, q_id 116 1 o0, q_id 116 1 o0, q_id 116 14 (o0 + 2), vp_in ((q_wI u37 (o0 + 1) (Int32.toNatClampNeg (u37.1 o0 0)) v1).1 o0 0) (q_sh (o0 + 2)).2, q_id 116 1 o0, q_id 116 1 o0, q_id 116 14 (o0 + 3), vp_in ((q_wI (q_wI u37 (o0 + 1) (Int32.toNatClampNeg (u37.1 o0 0)) v1) (o0 + 2) (Int32.toNatClampNeg ((q_wI u37 (o0 + 1) (Int32.toNatClampNeg (u37.1 o0 0)) v1).1 o0 0)) v32).1 o0 0) (q_sh (o0 + 3)).2, q_id 116 1 o0, q_id 116 1 o0] (by decide +kernel) (by refine qt_aload_n (r := o0) rfl ?_; refine qt_getR (r := o0 + 1) rfl rfl ?_; refine qt_aload_n (r := o0) rfl ?_; refine qt_getI rfl ?_; refine qt_iload_n (x := v1) rfl ?_; refine qt_iast ?_; refine qt_aload_n (r := o0) rfl ?_; refine qt_getR (r := o0 + 2) rfl rfl ?_; refine qt_aload_n (r := o0) rfl ?_; refine qt_getI rfl ?_; refine qt_iload_n (x := v32) rfl ?_; refine qt_iast ?_; refine qt_aload_n (r := o0) rfl ?_; refine qt_getR (r := o0 + 3) rfl rfl ?_; refine qt_aload_n (r := o0) rfl ?_; refine qt_getI rfl ?_; refine qt_iload (x := v34) rfl ?_; refine qt_iast ?_; refine qt_aload_n (r := o0) rfl ?_; refine qt_dupR ?_; refine qt_getI rfl ?_; refine qt_iconst qc_1 ?_; refine qt_iadd ?_; refine qt_putI rfl ?_; exact qt_z rfl rfl rfl rfl rfl) ⟨ho42, ho43, ho44, ho45, ho46, ho47, ho48, ho49, ho50, ho51, ho52, ho53, ho54, ho55⟩ ?_
        exact s_retV (by decide +kernel) rfl h
theorem eX1_readLine {d : Nat} {o0 : Nat} {w : q_Sm} {Q : s_Po} {X : s_Xo} (h : vX1_readLine_0 d o0 w Q X) : s_Ev (d + 1) 0 mX1_readLine w [.ref (o0), .ref (2)] Q X := s_of (by decide) rfl (Nat.le_of_ble_eq_true rfl) (xX1_readLine_0 h)
def vX1_rightMoves_0 (d : Nat) (o0 : Nat) (r1 : Nat) (w : q_Sm) (Q : s_Po) (X : s_Xo) : Prop := s_Ex (d + 1) 0 mX1_rightMoves 4 [some (.ref (o0)), some (.ref (r1)), some (.int (0)), some (.int (0))] [] w Q X
def vX1_rightMoves_4 (d : Nat) (o0 : Nat) (r1 : Nat) (x2 : Int32) (x3 : Int32) (w : q_Sm) (Q : s_Po) (X : s_Xo) : Prop := (q_id 116 2 r1) ∧ (((w.1 r1 10) ≤ x3) → Q (some (.int (x2))) w) ∧ (¬ ((w.1 r1 10) ≤ x3) → q_id 116 1 o0 ∧ s_EvI d 0 mX1_isRight w [.ref (o0), .ref (r1), .int (x3)] (fun v1 u2 => ((v1 = 0) → s_Ex (d + 1) 0 mX1_rightMoves 4 [some (.ref (o0)), some (.ref (r1)), some (.int (x2)), some (.int (x3 + 1))] [] u2 Q X) ∧ (¬ (v1 = 0) → s_Ex (d + 1) 0 mX1_rightMoves 4 [some (.ref (o0)), some (.ref (r1)), some (.int (x2 ||| (1 <<< (x3 &&& 31)))), some (.int (x3 + 1))] [] u2 Q X)) X)
theorem xX1_rightMoves_0 {d : Nat} {o0 : Nat} {r1 : Nat} {w : q_Sm} {Q : s_Po} {X : s_Xo} (h : vX1_rightMoves_0 d o0 r1 w Q X) : s_Ex (d + 1) 0 mX1_rightMoves 0 [some (.ref (o0)), some (.ref (r1)), none, none] [] w Q X := by
  unfold vX1_rightMoves_0 at h
  refine s_blk [(.iconst 0, 1, 0, 0), (.istore_n 2, 1, 0, 0), (.iconst 0, 1, 0, 0), (.istore_n 3, 1, 0, 0)] 4 [some (.ref (o0)), some (.ref (r1)), some (.int (0)), some (.int (0))] [] w [] (by decide +kernel) (by refine qt_iconst qc_0 ?_; refine qt_istore_n (L' := [some (.ref (o0)), some (.ref (r1)), some (.int (0)), none]) rfl ?_; refine qt_iconst qc_0 ?_; refine qt_istore_n (L' := [some (.ref (o0)), some (.ref (r1)), some (.int (0)), some (.int (0))]) rfl ?_; exact qt_z rfl rfl rfl rfl rfl) trivial ?_
  exact h
theorem xX1_rightMoves_4 {d : Nat} {o0 : Nat} {r1 : Nat} {x2 : Int32} {x3 : Int32} {w : q_Sm} {Q : s_Po} {X : s_Xo} (h : vX1_rightMoves_4 d o0 r1 x2 x3 w Q X) : s_Ex (d + 1) 0 mX1_rightMoves 4 [some (.ref (o0)), some (.ref (r1)), some (.int (x2)), some (.int (x3))] [] w Q X := by
  unfold vX1_rightMoves_4 at h
  obtain ⟨ho3, h⟩ := h
  refine s_blk [(.iload_n 3, 1, 0, 0), (.aload_n 1, 1, 0, 0), (.getfield 59, 3, 2, 10)] 9 [some (.ref (o0)), some (.ref (r1)), some (.int (x2)), some (.int (x3))] [.int (w.1 r1 10), .int (x3)] w [q_id 116 2 r1] (by decide +kernel) (by refine qt_iload_n (x := x3) rfl ?_; refine qt_aload_n (r := r1) rfl ?_; refine qt_getI rfl ?_; exact qt_z rfl rfl rfl rfl rfl) ho3 ?_
  refine s_icmp (cd := .ge) (off := 24) 33 (by decide +kernel) (by decide) (fun hc => ?_) (fun hc => ?_)
  · replace h := h.1 hc
    refine s_blk [(.iload_n 2, 1, 0, 0)] 34 [some (.ref (o0)), some (.ref (r1)), some (.int (x2)), some (.int (x3))] [.int (x2)] w [] (by decide +kernel) (by refine qt_iload_n (x := x2) rfl ?_; exact qt_z rfl rfl rfl rfl rfl) trivial ?_
    exact s_retI .int (by decide +kernel) rfl rfl h
  · replace h := h.2 hc
    refine s_blk [(.aload_n 0, 1, 0, 0), (.aload_n 1, 1, 0, 0), (.iload_n 3, 1, 0, 0)] 15 [some (.ref (o0)), some (.ref (r1)), some (.int (x2)), some (.int (x3))] [.int (x3), .ref (r1), .ref (o0)] w [] (by decide +kernel) (by refine qt_aload_n (r := o0) rfl ?_; refine qt_aload_n (r := r1) rfl ?_; refine qt_iload_n (x := x3) rfl ?_; exact qt_z rfl rfl rfl rfl rfl) trivial ?_
    obtain ⟨hid, h⟩ := h
    refine s_callV (a := 0) (a' := 0) (As := [.ref (r1), .int (x3)]) (id := o0) (st := []) kX1_isRight l_1_64 (by decide +kernel) hid rfl (Nat.le_of_ble_eq_true rfl) (s_mono h (s_I_of (fun v1 u2 h => ?_)) (fun _ _ h9 => h9))
    show s_Ex (d + 1) 0 mX1_rightMoves 18 [some (.ref (o0)), some (.ref (r1)), some (.int (x2)), some (.int (x3))] [.int (v1)] u2 Q X
    refine s_if (cd := .eq) (off := 9) 27 (by decide +kernel) (by decide) (fun hc => ?_) (fun hc => ?_)
    · replace h := h.1 hc
      refine s_blk [(.iinc 3 1, 3, 0, 0), (.goto (-26), 3, 4, 0)] 4 [some (.ref (o0)), some (.ref (r1)), some (.int (x2)), some (.int (x3 + 1))] [] u2 [] (by decide +kernel) (by refine qt_iinc (x := x3) (L' := [some (.ref (o0)), some (.ref (r1)), some (.int (x2)), some (.int (x3 + 1))]) rfl qc_1 rfl ?_; refine qt_goto ?_; exact qt_z rfl rfl rfl rfl rfl) trivial ?_
      exact h
    · replace h := h.2 hc
      refine s_blk [(.iload_n 2, 1, 0, 0), (.iconst 1, 1, 0, 0), (.iload_n 3, 1, 0, 0), (.ishl, 1, 0, 0), (.ior, 1, 0, 0), (.istore_n 2, 1, 0, 0), (.iinc 3 1, 3, 0, 0), (.goto (-26), 3, 4, 0)] 4 [some (.ref (o0)), some (.ref (r1)), some (.int (x2 ||| (1 <<< (x3 &&& 31)))), some (.int (x3 + 1))] [] u2 [] (by decide +kernel) (by refine qt_iload_n (x := x2) rfl ?_; refine qt_iconst qc_1 ?_; refine qt_iload_n (x := x3) rfl ?_; refine qt_ishl ?_; refine qt_ior ?_; refine qt_istore_n (L' := [some (.ref (o0)), some (.ref (r1)), some (.int (x2 ||| (1 <<< (x3 &&& 31)))), some (.int (x3))]) rfl ?_; refine qt_iinc (x := x3) (L' := [some (.ref (o0)), some (.ref (r1)), some (.int (x2 ||| (1 <<< (x3 &&& 31)))), some (.int (x3 + 1))]) rfl qc_1 rfl ?_; refine qt_goto ?_; exact qt_z rfl rfl rfl rfl rfl) trivial ?_
      exact h
theorem eX1_rightMoves {d : Nat} {o0 : Nat} {r1 : Nat} {w : q_Sm} {Q : s_Po} {X : s_Xo} (h : vX1_rightMoves_0 d o0 r1 w Q X) : s_Ev (d + 1) 0 mX1_rightMoves w [.ref (o0), .ref (r1)] Q X := s_of (by decide) rfl (Nat.le_of_ble_eq_true rfl) (xX1_rightMoves_0 h)
def vX1_isRight_0 (d : Nat) (o0 : Nat) (r1 : Nat) (x2 : Int32) (w : q_Sm) (Q : s_Po) (X : s_Xo) : Prop := s_Ex (d + 1) 0 mX1_isRight 2 [some (.ref (o0)), some (.ref (r1)), some (.int (x2)), some (.int (0))] [] w Q X
def vX1_isRight_2 (d : Nat) (o0 : Nat) (r1 : Nat) (x2 : Int32) (x3 : Int32) (w : q_Sm) (Q : s_Po) (X : s_Xo) : Prop := (q_id 116 1 o0) ∧ (((w.1 o0 0) ≤ x3) → Q (some (.int (1))) w) ∧ (¬ ((w.1 o0 0) ≤ x3) → (q_id 116 1 o0) ∧ (q_id 116 14 (o0 + 1)) ∧ (vp_in x3 (q_sh (o0 + 1)).2) ∧ (q_id 116 1 o0) ∧ (q_id 116 14 (o0 + 2)) ∧ (vp_in x3 (q_sh (o0 + 2)).2) ∧ q_id 116 2 r1 ∧ s_EvI d 0 mX2_shine w [.ref (r1), .int ((w.1 (o0 + 1) (Int32.toNatClampNeg x3)) + x2), .int (w.1 (o0 + 2) (Int32.toNatClampNeg x3))] (fun v1 u2 => (q_id 116 1 o0) ∧ (q_id 116 14 (o0 + 3)) ∧ (vp_in x3 (q_sh (o0 + 3)).2) ∧ ((v1 = (u2.1 (o0 + 3) (Int32.toNatClampNeg x3))) → s_Ex (d + 1) 0 mX1_isRight 2 [some (.ref (o0)), some (.ref (r1)), some (.int (x2)), some (.int (x3 + 1))] [] u2 Q X) ∧ (¬ (v1 = (u2.1 (o0 + 3) (Int32.toNatClampNeg x3))) → Q (some (.int (0))) u2)) X)
theorem xX1_isRight_0 {d : Nat} {o0 : Nat} {r1 : Nat} {x2 : Int32} {w : q_Sm} {Q : s_Po} {X : s_Xo} (h : vX1_isRight_0 d o0 r1 x2 w Q X) : s_Ex (d + 1) 0 mX1_isRight 0 [some (.ref (o0)), some (.ref (r1)), some (.int (x2)), none] [] w Q X := by
  unfold vX1_isRight_0 at h
  refine s_blk [(.iconst 0, 1, 0, 0), (.istore_n 3, 1, 0, 0)] 2 [some (.ref (o0)), some (.ref (r1)), some (.int (x2)), some (.int (0))] [] w [] (by decide +kernel) (by refine qt_iconst qc_0 ?_; refine qt_istore_n (L' := [some (.ref (o0)), some (.ref (r1)), some (.int (x2)), some (.int (0))]) rfl ?_; exact qt_z rfl rfl rfl rfl rfl) trivial ?_
  exact h
theorem xX1_isRight_2 {d : Nat} {o0 : Nat} {r1 : Nat} {x2 : Int32} {x3 : Int32} {w : q_Sm} {Q : s_Po} {X : s_Xo} (h : vX1_isRight_2 d o0 r1 x2 x3 w Q X) : s_Ex (d + 1) 0 mX1_isRight 2 [some (.ref (o0)), some (.ref (r1)), some (.int (x2)), some (.int (x3))] [] w Q X := by
  unfold vX1_isRight_2 at h
  obtain ⟨ho12, h⟩ := h
  refine s_blk [(.iload_n 3, 1, 0, 0), (.aload_n 0, 1, 0, 0), (.getfield 21, 3, 1, 0)] 7 [some (.ref (o0)), some (.ref (r1)), some (.int (x2)), some (.int (x3))] [.int (w.1 o0 0), .int (x3)] w [q_id 116 1 o0] (by decide +kernel) (by refine qt_iload_n (x := x3) rfl ?_; refine qt_aload_n (r := o0) rfl ?_; refine qt_getI rfl ?_; exact qt_z rfl rfl rfl rfl rfl) ho12 ?_
  refine s_icmp (cd := .ge) (off := 38) 45 (by decide +kernel) (by decide) (fun hc => ?_) (fun hc => ?_)
  · replace h := h.1 hc
    refine s_blk [(.iconst 1, 1, 0, 0)] 46 [some (.ref (o0)), some (.ref (r1)), some (.int (x2)), some (.int (x3))] [.int (1)] w [] (by decide +kernel) (by refine qt_iconst qc_1 ?_; exact qt_z rfl rfl rfl rfl rfl) trivial ?_
    exact s_retI .boolean (by decide +kernel) rfl rfl h
  · replace h := h.2 hc
    obtain ⟨ho6, h⟩ := h
    obtain ⟨ho7, h⟩ := h
    obtain ⟨ho8, h⟩ := h
    obtain ⟨ho9, h⟩ := h
    obtain ⟨ho10, h⟩ := h
    obtain ⟨ho11, h⟩ := h
    refine s_blk [(.aload_n 1, 1, 0, 0), (.aload_n 0, 1, 0, 0), (.getfield 9, 3, 1, 1), (.iload_n 3, 1, 0, 0), (.iaload, 1, 0, 0), (.iload_n 2, 1, 0, 0), (.iadd, 1, 0, 0), (.aload_n 0, 1, 0, 0), (.getfield 15, 3, 1, 2), (.iload_n 3, 1, 0, 0), (.iaload, 1, 0, 0)] 25 [some (.ref (o0)), some (.ref (r1)), some (.int (x2)), some (.int (x3))] [.int (w.1 (o0 + 2) (Int32.toNatClampNeg x3)), .int ((w.1 (o0 + 1) (Int32.toNatClampNeg x3)) + x2), .ref (r1)] w [q_id 116 1 o0, q_id 116 14 (o0 + 1), vp_in x3 (q_sh (o0 + 1)).2, q_id 116 1 o0, q_id 116 14 (o0 + 2), vp_in x3 (q_sh (o0 + 2)).2] (by decide +kernel) (by refine qt_aload_n (r := r1) rfl ?_; refine qt_aload_n (r := o0) rfl ?_; refine qt_getR (r := o0 + 1) rfl rfl ?_; refine qt_iload_n (x := x3) rfl ?_; refine qt_iald ?_; refine qt_iload_n (x := x2) rfl ?_; refine qt_iadd ?_; refine qt_aload_n (r := o0) rfl ?_; refine qt_getR (r := o0 + 2) rfl rfl ?_; refine qt_iload_n (x := x3) rfl ?_; refine qt_iald ?_; exact qt_z rfl rfl rfl rfl rfl) ⟨ho6, ho7, ho8, ho9, ho10, ho11⟩ ?_
    obtain ⟨hid, h⟩ := h
    refine s_callV (a := 0) (a' := 0) (As := [.int ((w.1 (o0 + 1) (Int32.toNatClampNeg x3)) + x2), .int (w.1 (o0 + 2) (Int32.toNatClampNeg x3))]) (id := r1) (st := []) kX2_shine l_1_68 (by decide +kernel) hid rfl (Nat.le_of_ble_eq_true rfl) (s_mono h (s_I_of (fun v1 u2 h => ?_)) (fun _ _ h9 => h9))
    show s_Ex (d + 1) 0 mX1_isRight 28 [some (.ref (o0)), some (.ref (r1)), some (.int (x2)), some (.int (x3))] [.int (v1)] u2 Q X
    obtain ⟨ho3, h⟩ := h
    obtain ⟨ho4, h⟩ := h
    obtain ⟨ho5, h⟩ := h
    refine s_blk [(.aload_n 0, 1, 0, 0), (.getfield 18, 3, 1, 3), (.iload_n 3, 1, 0, 0), (.iaload, 1, 0, 0)] 34 [some (.ref (o0)), some (.ref (r1)), some (.int (x2)), some (.int (x3))] [.int (u2.1 (o0 + 3) (Int32.toNatClampNeg x3)), .int (v1)] u2 [q_id 116 1 o0, q_id 116 14 (o0 + 3), vp_in x3 (q_sh (o0 + 3)).2] (by decide +kernel) (by refine qt_aload_n (r := o0) rfl ?_; refine qt_getR (r := o0 + 3) rfl rfl ?_; refine qt_iload_n (x := x3) rfl ?_; refine qt_iald ?_; exact qt_z rfl rfl rfl rfl rfl) ⟨ho3, ho4, ho5⟩ ?_
    refine s_icmp (cd := .eq) (off := 5) 39 (by decide +kernel) (by decide) (fun hc => ?_) (fun hc => ?_)
    · replace h := h.1 hc
      refine s_blk [(.iinc 3 1, 3, 0, 0), (.goto (-40), 3, 2, 0)] 2 [some (.ref (o0)), some (.ref (r1)), some (.int (x2)), some (.int (x3 + 1))] [] u2 [] (by decide +kernel) (by refine qt_iinc (x := x3) (L' := [some (.ref (o0)), some (.ref (r1)), some (.int (x2)), some (.int (x3 + 1))]) rfl qc_1 rfl ?_; refine qt_goto ?_; exact qt_z rfl rfl rfl rfl rfl) trivial ?_
      exact h
    · replace h := h.2 hc
      refine s_blk [(.iconst 0, 1, 0, 0)] 38 [some (.ref (o0)), some (.ref (r1)), some (.int (x2)), some (.int (x3))] [.int (0)] u2 [] (by decide +kernel) (by refine qt_iconst qc_0 ?_; exact qt_z rfl rfl rfl rfl rfl) trivial ?_
      exact s_retI .boolean (by decide +kernel) rfl rfl h
theorem eX1_isRight {d : Nat} {o0 : Nat} {r1 : Nat} {x2 : Int32} {w : q_Sm} {Q : s_Po} {X : s_Xo} (h : vX1_isRight_0 d o0 r1 x2 w Q X) : s_Ev (d + 1) 0 mX1_isRight w [.ref (o0), .ref (r1), .int (x2)] Q X := s_of (by decide) rfl (Nat.le_of_ble_eq_true rfl) (xX1_isRight_0 h)
def vX1_findLook_0 (d : Nat) (o0 : Nat) (r1 : Nat) (w : q_Sm) (Q : s_Po) (X : s_Xo) : Prop := (q_id 116 1 o0) ∧ ∀ w_1 : q_Sm, w_1 = q_wI w o0 4 (-1) → (q_id 116 1 o0) ∧ ∀ w_2 : q_Sm, w_2 = q_wI w_1 o0 5 (-1) → (q_id 116 1 o0) ∧ ∀ w_3 : q_Sm, w_3 = q_wI w_2 o0 6 (-1) → q_id 116 1 o0 ∧ s_EvI d 0 mX1_rightMoves w_3 [.ref (o0), .ref (r1)] (fun v4 u5 => s_Ex (d + 1) 0 mX1_findLook 23 [some (.ref (o0)), some (.ref (r1)), some (.int (v4)), some (.int (0)), none] [] u5 Q X) X
def vX1_findLook_23 (d : Nat) (o0 : Nat) (r1 : Nat) (x2 : Int32) (x3 : Int32) (w : q_Sm) (Q : s_Po) (X : s_Xo) : Prop := (q_id 116 2 r1) ∧ (((w.1 r1 10) ≤ x3) → Q none w) ∧ (¬ ((w.1 r1 10) ≤ x3) → s_Ex (d + 1) 0 mX1_findLook 34 [some (.ref (o0)), some (.ref (r1)), some (.int (x2)), some (.int (x3)), some (.int (0))] [] w Q X)
def vX1_findLook_34 (d : Nat) (o0 : Nat) (r1 : Nat) (x2 : Int32) (x3 : Int32) (x4 : Int32) (w : q_Sm) (Q : s_Po) (X : s_Xo) : Prop := ((4 ≤ x4) → s_Ex (d + 1) 0 mX1_findLook 23 [some (.ref (o0)), some (.ref (r1)), some (.int (x2)), some (.int (x3 + 1)), none] [] w Q X) ∧ (¬ (4 ≤ x4) → q_id 116 1 o0 ∧ s_EvI d 0 mX1_isInLine w [.ref (o0), .int (x3), .int (x4)] (fun v10 u11 => ((¬ v10 = 0) → s_Ex (d + 1) 0 mX1_findLook 34 [some (.ref (o0)), some (.ref (r1)), some (.int (x2)), some (.int (x3)), some (.int (x4 + 1))] [] u11 Q X) ∧ (¬ (¬ v10 = 0) → s_EvI d 0 mX1_mostAlike u11 [.ref (r1), .int (x2), .int (x3), .int (x4)] (fun v12 u13 => q_id 116 1 o0 ∧ s_EvV d 0 mX1_offerLook u13 [.ref (o0), .int (x3), .int (x4), .int (v12)] (fun u15 => s_Ex (d + 1) 0 mX1_findLook 34 [some (.ref (o0)), some (.ref (r1)), some (.int (x2)), some (.int (x3)), some (.int (x4 + 1))] [] u15 Q X) X) X)) X)
theorem xX1_findLook_0 {d : Nat} {o0 : Nat} {r1 : Nat} {w : q_Sm} {Q : s_Po} {X : s_Xo} (h : vX1_findLook_0 d o0 r1 w Q X) : s_Ex (d + 1) 0 mX1_findLook 0 [some (.ref (o0)), some (.ref (r1)), none, none, none] [] w Q X := by
  unfold vX1_findLook_0 at h
  obtain ⟨ho6, h⟩ := h
  replace h := h _ rfl
  obtain ⟨ho7, h⟩ := h
  replace h := h _ rfl
  obtain ⟨ho8, h⟩ := h
  replace h := h _ rfl
  refine s_blk [(.aload_n 0, 1, 0, 0), (.iconst (-1), 1, 0, 0), (.putfield 71, 3, 1, 4), (.aload_n 0, 1, 0, 0), (.iconst (-1), 1, 0, 0), (.putfield 74, 3, 1, 5), (.aload_n 0, 1, 0, 0), (.iconst (-1), 1, 0, 0), (.putfield 77, 3, 1, 6), (.aload_n 0, 1, 0, 0), (.aload_n 1, 1, 0, 0)] 17 [some (.ref (o0)), some (.ref (r1)), none, none, none] [.ref (r1), .ref (o0)] (q_wI (q_wI (q_wI w o0 4 (-1)) o0 5 (-1)) o0 6 (-1)) [q_id 116 1 o0, q_id 116 1 o0, q_id 116 1 o0] (by decide +kernel) (by refine qt_aload_n (r := o0) rfl ?_; refine qt_iconst qc_m1 ?_; refine qt_putI rfl ?_; refine qt_aload_n (r := o0) rfl ?_; refine qt_iconst qc_m1 ?_; refine qt_putI rfl ?_; refine qt_aload_n (r := o0) rfl ?_; refine qt_iconst qc_m1 ?_; refine qt_putI rfl ?_; refine qt_aload_n (r := o0) rfl ?_; refine qt_aload_n (r := r1) rfl ?_; exact qt_z rfl rfl rfl rfl rfl) ⟨ho6, ho7, ho8⟩ ?_
  obtain ⟨hid, h⟩ := h
  refine s_callV (a := 0) (a' := 0) (As := [.ref (r1)]) (id := o0) (st := []) kX1_rightMoves l_1_80 (by decide +kernel) hid rfl (Nat.le_of_ble_eq_true rfl) (s_mono h (s_I_of (fun v4 u5 h => ?_)) (fun _ _ h9 => h9))
  show s_Ex (d + 1) 0 mX1_findLook 20 [some (.ref (o0)), some (.ref (r1)), none, none, none] [.int (v4)] u5 Q X
  refine s_blk [(.istore_n 2, 1, 0, 0), (.iconst 0, 1, 0, 0), (.istore_n 3, 1, 0, 0)] 23 [some (.ref (o0)), some (.ref (r1)), some (.int (v4)), some (.int (0)), none] [] u5 [] (by decide +kernel) (by refine qt_istore_n (L' := [some (.ref (o0)), some (.ref (r1)), some (.int (v4)), none, none]) rfl ?_; refine qt_iconst qc_0 ?_; refine qt_istore_n (L' := [some (.ref (o0)), some (.ref (r1)), some (.int (v4)), some (.int (0)), none]) rfl ?_; exact qt_z rfl rfl rfl rfl rfl) trivial ?_
  exact h
theorem xX1_findLook_23 {d : Nat} {o0 : Nat} {r1 : Nat} {x2 : Int32} {x3 : Int32} {w : q_Sm} {Q : s_Po} {X : s_Xo} (h : vX1_findLook_23 d o0 r1 x2 x3 w Q X) : s_Ex (d + 1) 0 mX1_findLook 23 [some (.ref (o0)), some (.ref (r1)), some (.int (x2)), some (.int (x3)), none] [] w Q X := by
  unfold vX1_findLook_23 at h
  obtain ⟨ho9, h⟩ := h
  refine s_blk [(.iload_n 3, 1, 0, 0), (.aload_n 1, 1, 0, 0), (.getfield 59, 3, 2, 10)] 28 [some (.ref (o0)), some (.ref (r1)), some (.int (x2)), some (.int (x3)), none] [.int (w.1 r1 10), .int (x3)] w [q_id 116 2 r1] (by decide +kernel) (by refine qt_iload_n (x := x3) rfl ?_; refine qt_aload_n (r := r1) rfl ?_; refine qt_getI rfl ?_; exact qt_z rfl rfl rfl rfl rfl) ho9 ?_
  refine s_icmp (cd := .ge) (off := 49) 77 (by decide +kernel) (by decide) (fun hc => ?_) (fun hc => ?_)
  · replace h := h.1 hc
    exact s_retV (by decide +kernel) rfl h
  · replace h := h.2 hc
    refine s_blk [(.iconst 0, 1, 0, 0), (.istore 4, 2, 0, 0)] 34 [some (.ref (o0)), some (.ref (r1)), some (.int (x2)), some (.int (x3)), some (.int (0))] [] w [] (by decide +kernel) (by refine qt_iconst qc_0 ?_; refine qt_istore (L' := [some (.ref (o0)), some (.ref (r1)), some (.int (x2)), some (.int (x3)), some (.int (0))]) rfl ?_; exact qt_z rfl rfl rfl rfl rfl) trivial ?_
    exact h
theorem xX1_findLook_34 {d : Nat} {o0 : Nat} {r1 : Nat} {x2 : Int32} {x3 : Int32} {x4 : Int32} {w : q_Sm} {Q : s_Po} {X : s_Xo} (h : vX1_findLook_34 d o0 r1 x2 x3 x4 w Q X) : s_Ex (d + 1) 0 mX1_findLook 34 [some (.ref (o0)), some (.ref (r1)), some (.int (x2)), some (.int (x3)), some (.int (x4))] [] w Q X := by
  unfold vX1_findLook_34 at h
  refine s_blk [(.iload 4, 2, 0, 0), (.iconst 4, 1, 0, 0)] 37 [some (.ref (o0)), some (.ref (r1)), some (.int (x2)), some (.int (x3)), some (.int (x4))] [.int (4), .int (x4)] w [] (by decide +kernel) (by refine qt_iload (x := x4) rfl ?_; refine qt_iconst qc_4 ?_; exact qt_z rfl rfl rfl rfl rfl) trivial ?_
  refine s_icmp (cd := .ge) (off := 34) 71 (by decide +kernel) (by decide) (fun hc => ?_) (fun hc => ?_)
  · replace h := h.1 hc
    refine s_blk [(.iinc 3 1, 3, 0, 0), (.goto (-51), 3, 23, 0), (.nop, 0, 4, 0)] 23 [some (.ref (o0)), some (.ref (r1)), some (.int (x2)), some (.int (x3 + 1)), none] [] w [] (by decide +kernel) (by refine qt_iinc (x := x3) (L' := [some (.ref (o0)), some (.ref (r1)), some (.int (x2)), some (.int (x3 + 1)), some (.int (x4))]) rfl qc_1 rfl ?_; refine qt_goto ?_; refine qt_nop (L' := [some (.ref (o0)), some (.ref (r1)), some (.int (x2)), some (.int (x3 + 1)), none]) rfl ?_; exact qt_z rfl rfl rfl rfl rfl) trivial ?_
    exact h
  · replace h := h.2 hc
    refine s_blk [(.aload_n 0, 1, 0, 0), (.iload_n 3, 1, 0, 0), (.iload 4, 2, 0, 0)] 44 [some (.ref (o0)), some (.ref (r1)), some (.int (x2)), some (.int (x3)), some (.int (x4))] [.int (x4), .int (x3), .ref (o0)] w [] (by decide +kernel) (by refine qt_aload_n (r := o0) rfl ?_; refine qt_iload_n (x := x3) rfl ?_; refine qt_iload (x := x4) rfl ?_; exact qt_z rfl rfl rfl rfl rfl) trivial ?_
    obtain ⟨hid, h⟩ := h
    refine s_callV (a := 0) (a' := 0) (As := [.int (x3), .int (x4)]) (id := o0) (st := []) kX1_isInLine l_1_84 (by decide +kernel) hid rfl (Nat.le_of_ble_eq_true rfl) (s_mono h (s_I_of (fun v10 u11 h => ?_)) (fun _ _ h9 => h9))
    show s_Ex (d + 1) 0 mX1_findLook 47 [some (.ref (o0)), some (.ref (r1)), some (.int (x2)), some (.int (x3)), some (.int (x4))] [.int (v10)] u11 Q X
    refine s_if (cd := .ne) (off := 18) 65 (by decide +kernel) (by decide) (fun hc => ?_) (fun hc => ?_)
    · replace h := h.1 hc
      refine s_blk [(.iinc 4 1, 3, 0, 0), (.goto (-34), 3, 34, 0)] 34 [some (.ref (o0)), some (.ref (r1)), some (.int (x2)), some (.int (x3)), some (.int (x4 + 1))] [] u11 [] (by decide +kernel) (by refine qt_iinc (x := x4) (L' := [some (.ref (o0)), some (.ref (r1)), some (.int (x2)), some (.int (x3)), some (.int (x4 + 1))]) rfl qc_1 rfl ?_; refine qt_goto ?_; exact qt_z rfl rfl rfl rfl rfl) trivial ?_
      exact h
    · replace h := h.2 hc
      refine s_blk [(.aload_n 0, 1, 0, 0), (.iload_n 3, 1, 0, 0), (.iload 4, 2, 0, 0), (.aload_n 1, 1, 0, 0), (.iload_n 2, 1, 0, 0), (.iload_n 3, 1, 0, 0), (.iload 4, 2, 0, 0)] 59 [some (.ref (o0)), some (.ref (r1)), some (.int (x2)), some (.int (x3)), some (.int (x4))] [.int (x4), .int (x3), .int (x2), .ref (r1), .int (x4), .int (x3), .ref (o0)] u11 [] (by decide +kernel) (by refine qt_aload_n (r := o0) rfl ?_; refine qt_iload_n (x := x3) rfl ?_; refine qt_iload (x := x4) rfl ?_; refine qt_aload_n (r := r1) rfl ?_; refine qt_iload_n (x := x2) rfl ?_; refine qt_iload_n (x := x3) rfl ?_; refine qt_iload (x := x4) rfl ?_; exact qt_z rfl rfl rfl rfl rfl) trivial ?_
      refine s_callS (a := 0) (a' := 0) (As := [.ref (r1), .int (x2), .int (x3), .int (x4)]) (st := [.int (x4), .int (x3), .ref (o0)]) kX1_mostAlike l_1_88 (by decide +kernel) rfl (Nat.le_of_ble_eq_true rfl) (s_mono h (s_I_of (fun v12 u13 h => ?_)) (fun _ _ h9 => h9))
      show s_Ex (d + 1) 0 mX1_findLook 62 [some (.ref (o0)), some (.ref (r1)), some (.int (x2)), some (.int (x3)), some (.int (x4))] [.int (v12), .int (x4), .int (x3), .ref (o0)] u13 Q X
      obtain ⟨hid, h⟩ := h
      refine s_callV (a := 0) (a' := 0) (As := [.int (x3), .int (x4), .int (v12)]) (id := o0) (st := []) kX1_offerLook l_1_92 (by decide +kernel) hid rfl (Nat.le_of_ble_eq_true rfl) (s_mono h (s_V_of (fun u15 h => ?_)) (fun _ _ h9 => h9))
      show s_Ex (d + 1) 0 mX1_findLook 65 [some (.ref (o0)), some (.ref (r1)), some (.int (x2)), some (.int (x3)), some (.int (x4))] [] u15 Q X
      refine s_blk [(.iinc 4 1, 3, 0, 0), (.goto (-34), 3, 34, 0)] 34 [some (.ref (o0)), some (.ref (r1)), some (.int (x2)), some (.int (x3)), some (.int (x4 + 1))] [] u15 [] (by decide +kernel) (by refine qt_iinc (x := x4) (L' := [some (.ref (o0)), some (.ref (r1)), some (.int (x2)), some (.int (x3)), some (.int (x4 + 1))]) rfl qc_1 rfl ?_; refine qt_goto ?_; exact qt_z rfl rfl rfl rfl rfl) trivial ?_
      exact h
theorem eX1_findLook {d : Nat} {o0 : Nat} {r1 : Nat} {w : q_Sm} {Q : s_Po} {X : s_Xo} (h : vX1_findLook_0 d o0 r1 w Q X) : s_Ev (d + 1) 0 mX1_findLook w [.ref (o0), .ref (r1)] Q X := s_of (by decide) rfl (Nat.le_of_ble_eq_true rfl) (xX1_findLook_0 h)
def vX1_isInLine_0 (d : Nat) (o0 : Nat) (x1 : Int32) (x2 : Int32) (w : q_Sm) (Q : s_Po) (X : s_Xo) : Prop := s_Ex (d + 1) 0 mX1_isInLine 2 [some (.ref (o0)), some (.int (x1)), some (.int (x2)), some (.int (0))] [] w Q X
def vX1_isInLine_2 (d : Nat) (o0 : Nat) (x1 : Int32) (x2 : Int32) (x3 : Int32) (w : q_Sm) (Q : s_Po) (X : s_Xo) : Prop := (q_id 116 1 o0) ∧ (((w.1 o0 0) ≤ x3) → Q (some (.int (0))) w) ∧ (¬ ((w.1 o0 0) ≤ x3) → (q_id 116 1 o0) ∧ (q_id 116 14 (o0 + 1)) ∧ (vp_in x3 (q_sh (o0 + 1)).2) ∧ ((¬ (w.1 (o0 + 1) (Int32.toNatClampNeg x3)) = x1) → s_Ex (d + 1) 0 mX1_isInLine 2 [some (.ref (o0)), some (.int (x1)), some (.int (x2)), some (.int (x3 + 1))] [] w Q X) ∧ (¬ (¬ (w.1 (o0 + 1) (Int32.toNatClampNeg x3)) = x1) → (q_id 116 1 o0) ∧ (q_id 116 14 (o0 + 2)) ∧ (vp_in x3 (q_sh (o0 + 2)).2) ∧ ((¬ (w.1 (o0 + 2) (Int32.toNatClampNeg x3)) = x2) → s_Ex (d + 1) 0 mX1_isInLine 2 [some (.ref (o0)), some (.int (x1)), some (.int (x2)), some (.int (x3 + 1))] [] w Q X) ∧ (¬ (¬ (w.1 (o0 + 2) (Int32.toNatClampNeg x3)) = x2) → Q (some (.int (1))) w)))
theorem xX1_isInLine_0 {d : Nat} {o0 : Nat} {x1 : Int32} {x2 : Int32} {w : q_Sm} {Q : s_Po} {X : s_Xo} (h : vX1_isInLine_0 d o0 x1 x2 w Q X) : s_Ex (d + 1) 0 mX1_isInLine 0 [some (.ref (o0)), some (.int (x1)), some (.int (x2)), none] [] w Q X := by
  unfold vX1_isInLine_0 at h
  refine s_blk [(.iconst 0, 1, 0, 0), (.istore_n 3, 1, 0, 0)] 2 [some (.ref (o0)), some (.int (x1)), some (.int (x2)), some (.int (0))] [] w [] (by decide +kernel) (by refine qt_iconst qc_0 ?_; refine qt_istore_n (L' := [some (.ref (o0)), some (.int (x1)), some (.int (x2)), some (.int (0))]) rfl ?_; exact qt_z rfl rfl rfl rfl rfl) trivial ?_
  exact h
theorem xX1_isInLine_2 {d : Nat} {o0 : Nat} {x1 : Int32} {x2 : Int32} {x3 : Int32} {w : q_Sm} {Q : s_Po} {X : s_Xo} (h : vX1_isInLine_2 d o0 x1 x2 x3 w Q X) : s_Ex (d + 1) 0 mX1_isInLine 2 [some (.ref (o0)), some (.int (x1)), some (.int (x2)), some (.int (x3))] [] w Q X := by
  unfold vX1_isInLine_2 at h
  obtain ⟨ho7, h⟩ := h
  refine s_blk [(.iload_n 3, 1, 0, 0), (.aload_n 0, 1, 0, 0), (.getfield 21, 3, 1, 0)] 7 [some (.ref (o0)), some (.int (x1)), some (.int (x2)), some (.int (x3))] [.int (w.1 o0 0), .int (x3)] w [q_id 116 1 o0] (by decide +kernel) (by refine qt_iload_n (x := x3) rfl ?_; refine qt_aload_n (r := o0) rfl ?_; refine qt_getI rfl ?_; exact qt_z rfl rfl rfl rfl rfl) ho7 ?_
  refine s_icmp (cd := .ge) (off := 31) 38 (by decide +kernel) (by decide) (fun hc => ?_) (fun hc => ?_)
  · replace h := h.1 hc
    refine s_blk [(.iconst 0, 1, 0, 0)] 39 [some (.ref (o0)), some (.int (x1)), some (.int (x2)), some (.int (x3))] [.int (0)] w [] (by decide +kernel) (by refine qt_iconst qc_0 ?_; exact qt_z rfl rfl rfl rfl rfl) trivial ?_
    exact s_retI .boolean (by decide +kernel) rfl rfl h
  · replace h := h.2 hc
    obtain ⟨ho4, h⟩ := h
    obtain ⟨ho5, h⟩ := h
    obtain ⟨ho6, h⟩ := h
    refine s_blk [(.aload_n 0, 1, 0, 0), (.getfield 9, 3, 1, 1), (.iload_n 3, 1, 0, 0), (.iaload, 1, 0, 0), (.iload_n 1, 1, 0, 0)] 17 [some (.ref (o0)), some (.int (x1)), some (.int (x2)), some (.int (x3))] [.int (x1), .int (w.1 (o0 + 1) (Int32.toNatClampNeg x3))] w [q_id 116 1 o0, q_id 116 14 (o0 + 1), vp_in x3 (q_sh (o0 + 1)).2] (by decide +kernel) (by refine qt_aload_n (r := o0) rfl ?_; refine qt_getR (r := o0 + 1) rfl rfl ?_; refine qt_iload_n (x := x3) rfl ?_; refine qt_iald ?_; refine qt_iload_n (x := x1) rfl ?_; exact qt_z rfl rfl rfl rfl rfl) ⟨ho4, ho5, ho6⟩ ?_
    refine s_icmp (cd := .ne) (off := 15) 32 (by decide +kernel) (by decide) (fun hc => ?_) (fun hc => ?_)
    · replace h := h.1 hc
      refine s_blk [(.iinc 3 1, 3, 0, 0), (.goto (-33), 3, 2, 0)] 2 [some (.ref (o0)), some (.int (x1)), some (.int (x2)), some (.int (x3 + 1))] [] w [] (by decide +kernel) (by refine qt_iinc (x := x3) (L' := [some (.ref (o0)), some (.int (x1)), some (.int (x2)), some (.int (x3 + 1))]) rfl qc_1 rfl ?_; refine qt_goto ?_; exact qt_z rfl rfl rfl rfl rfl) trivial ?_
      exact h
    · replace h := h.2 hc
      obtain ⟨ho1, h⟩ := h
      obtain ⟨ho2, h⟩ := h
      obtain ⟨ho3, h⟩ := h
      refine s_blk [(.aload_n 0, 1, 0, 0), (.getfield 15, 3, 1, 2), (.iload_n 3, 1, 0, 0), (.iaload, 1, 0, 0), (.iload_n 2, 1, 0, 0)] 27 [some (.ref (o0)), some (.int (x1)), some (.int (x2)), some (.int (x3))] [.int (x2), .int (w.1 (o0 + 2) (Int32.toNatClampNeg x3))] w [q_id 116 1 o0, q_id 116 14 (o0 + 2), vp_in x3 (q_sh (o0 + 2)).2] (by decide +kernel) (by refine qt_aload_n (r := o0) rfl ?_; refine qt_getR (r := o0 + 2) rfl rfl ?_; refine qt_iload_n (x := x3) rfl ?_; refine qt_iald ?_; refine qt_iload_n (x := x2) rfl ?_; exact qt_z rfl rfl rfl rfl rfl) ⟨ho1, ho2, ho3⟩ ?_
      refine s_icmp (cd := .ne) (off := 5) 32 (by decide +kernel) (by decide) (fun hc => ?_) (fun hc => ?_)
      · replace h := h.1 hc
        refine s_blk [(.iinc 3 1, 3, 0, 0), (.goto (-33), 3, 2, 0)] 2 [some (.ref (o0)), some (.int (x1)), some (.int (x2)), some (.int (x3 + 1))] [] w [] (by decide +kernel) (by refine qt_iinc (x := x3) (L' := [some (.ref (o0)), some (.int (x1)), some (.int (x2)), some (.int (x3 + 1))]) rfl qc_1 rfl ?_; refine qt_goto ?_; exact qt_z rfl rfl rfl rfl rfl) trivial ?_
        exact h
      · replace h := h.2 hc
        refine s_blk [(.iconst 1, 1, 0, 0)] 31 [some (.ref (o0)), some (.int (x1)), some (.int (x2)), some (.int (x3))] [.int (1)] w [] (by decide +kernel) (by refine qt_iconst qc_1 ?_; exact qt_z rfl rfl rfl rfl rfl) trivial ?_
        exact s_retI .boolean (by decide +kernel) rfl rfl h
theorem eX1_isInLine {d : Nat} {o0 : Nat} {x1 : Int32} {x2 : Int32} {w : q_Sm} {Q : s_Po} {X : s_Xo} (h : vX1_isInLine_0 d o0 x1 x2 w Q X) : s_Ev (d + 1) 0 mX1_isInLine w [.ref (o0), .int (x1), .int (x2)] Q X := s_of (by decide) rfl (Nat.le_of_ble_eq_true rfl) (xX1_isInLine_0 h)
def vX1_offerLook_0 (d : Nat) (o0 : Nat) (x1 : Int32) (x2 : Int32) (x3 : Int32) (w : q_Sm) (Q : s_Po) (X : s_Xo) : Prop := (q_id 116 1 o0) ∧ (((w.1 o0 4) = (-1)) → (q_id 116 1 o0) ∧ ∀ w_1 : q_Sm, w_1 = q_wI w o0 4 x1 → (q_id 116 1 o0) ∧ ∀ w_2 : q_Sm, w_2 = q_wI w_1 o0 5 x2 → (q_id 116 1 o0) ∧ ∀ w_3 : q_Sm, w_3 = q_wI w_2 o0 6 x3 → Q none w_3) ∧ (¬ ((w.1 o0 4) = (-1)) → (q_id 116 1 o0) ∧ (((w.1 o0 6) ≤ x3) → Q none w) ∧ (¬ ((w.1 o0 6) ≤ x3) → (q_id 116 1 o0) ∧ ∀ w_7 : q_Sm, w_7 = q_wI w o0 4 x1 → (q_id 116 1 o0) ∧ ∀ w_8 : q_Sm, w_8 = q_wI w_7 o0 5 x2 → (q_id 116 1 o0) ∧ ∀ w_9 : q_Sm, w_9 = q_wI w_8 o0 6 x3 → Q none w_9))
theorem xX1_offerLook_0 {d : Nat} {o0 : Nat} {x1 : Int32} {x2 : Int32} {x3 : Int32} {w : q_Sm} {Q : s_Po} {X : s_Xo} (h : vX1_offerLook_0 d o0 x1 x2 x3 w Q X) : s_Ex (d + 1) 0 mX1_offerLook 0 [some (.ref (o0)), some (.int (x1)), some (.int (x2)), some (.int (x3))] [] w Q X := by
  unfold vX1_offerLook_0 at h
  obtain ⟨ho14, h⟩ := h
  refine s_blk [(.aload_n 0, 1, 0, 0), (.getfield 71, 3, 1, 4), (.iconst (-1), 1, 0, 0)] 5 [some (.ref (o0)), some (.int (x1)), some (.int (x2)), some (.int (x3))] [.int (-1), .int (w.1 o0 4)] w [q_id 116 1 o0] (by decide +kernel) (by refine qt_aload_n (r := o0) rfl ?_; refine qt_getI rfl ?_; refine qt_iconst qc_m1 ?_; exact qt_z rfl rfl rfl rfl rfl) ho14 ?_
  refine s_icmp (cd := .eq) (off := 11) 16 (by decide +kernel) (by decide) (fun hc => ?_) (fun hc => ?_)
  · replace h := h.1 hc
    obtain ⟨ho4, h⟩ := h
    replace h := h _ rfl
    obtain ⟨ho5, h⟩ := h
    replace h := h _ rfl
    obtain ⟨ho6, h⟩ := h
    replace h := h _ rfl
    refine s_blk [(.aload_n 0, 1, 0, 0), (.iload_n 1, 1, 0, 0), (.putfield 71, 3, 1, 4), (.aload_n 0, 1, 0, 0), (.iload_n 2, 1, 0, 0), (.putfield 74, 3, 1, 5), (.aload_n 0, 1, 0, 0), (.iload_n 3, 1, 0, 0), (.putfield 77, 3, 1, 6)] 31 [some (.ref (o0)), some (.int (x1)), some (.int (x2)), some (.int (x3))] [] (q_wI (q_wI (q_wI w o0 4 x1) o0 5 x2) o0 6 x3) [q_id 116 1 o0, q_id 116 1 o0, q_id 116 1 o0] (by decide +kernel) (by refine qt_aload_n (r := o0) rfl ?_; refine qt_iload_n (x := x1) rfl ?_; refine qt_putI rfl ?_; refine qt_aload_n (r := o0) rfl ?_; refine qt_iload_n (x := x2) rfl ?_; refine qt_putI rfl ?_; refine qt_aload_n (r := o0) rfl ?_; refine qt_iload_n (x := x3) rfl ?_; refine qt_putI rfl ?_; exact qt_z rfl rfl rfl rfl rfl) ⟨ho4, ho5, ho6⟩ ?_
    exact s_retV (by decide +kernel) rfl h
  · replace h := h.2 hc
    obtain ⟨ho13, h⟩ := h
    refine s_blk [(.iload_n 3, 1, 0, 0), (.aload_n 0, 1, 0, 0), (.getfield 77, 3, 1, 6)] 13 [some (.ref (o0)), some (.int (x1)), some (.int (x2)), some (.int (x3))] [.int (w.1 o0 6), .int (x3)] w [q_id 116 1 o0] (by decide +kernel) (by refine qt_iload_n (x := x3) rfl ?_; refine qt_aload_n (r := o0) rfl ?_; refine qt_getI rfl ?_; exact qt_z rfl rfl rfl rfl rfl) ho13 ?_
    refine s_icmp (cd := .ge) (off := 18) 31 (by decide +kernel) (by decide) (fun hc => ?_) (fun hc => ?_)
    · replace h := h.1 hc
      exact s_retV (by decide +kernel) rfl h
    · replace h := h.2 hc
      obtain ⟨ho10, h⟩ := h
      replace h := h _ rfl
      obtain ⟨ho11, h⟩ := h
      replace h := h _ rfl
      obtain ⟨ho12, h⟩ := h
      replace h := h _ rfl
      refine s_blk [(.aload_n 0, 1, 0, 0), (.iload_n 1, 1, 0, 0), (.putfield 71, 3, 1, 4), (.aload_n 0, 1, 0, 0), (.iload_n 2, 1, 0, 0), (.putfield 74, 3, 1, 5), (.aload_n 0, 1, 0, 0), (.iload_n 3, 1, 0, 0), (.putfield 77, 3, 1, 6)] 31 [some (.ref (o0)), some (.int (x1)), some (.int (x2)), some (.int (x3))] [] (q_wI (q_wI (q_wI w o0 4 x1) o0 5 x2) o0 6 x3) [q_id 116 1 o0, q_id 116 1 o0, q_id 116 1 o0] (by decide +kernel) (by refine qt_aload_n (r := o0) rfl ?_; refine qt_iload_n (x := x1) rfl ?_; refine qt_putI rfl ?_; refine qt_aload_n (r := o0) rfl ?_; refine qt_iload_n (x := x2) rfl ?_; refine qt_putI rfl ?_; refine qt_aload_n (r := o0) rfl ?_; refine qt_iload_n (x := x3) rfl ?_; refine qt_putI rfl ?_; exact qt_z rfl rfl rfl rfl rfl) ⟨ho10, ho11, ho12⟩ ?_
      exact s_retV (by decide +kernel) rfl h
theorem eX1_offerLook {d : Nat} {o0 : Nat} {x1 : Int32} {x2 : Int32} {x3 : Int32} {w : q_Sm} {Q : s_Po} {X : s_Xo} (h : vX1_offerLook_0 d o0 x1 x2 x3 w Q X) : s_Ev (d + 1) 0 mX1_offerLook w [.ref (o0), .int (x1), .int (x2), .int (x3)] Q X := s_of (by decide) rfl (Nat.le_of_ble_eq_true rfl) (xX1_offerLook_0 h)
def vX1_alike_0 (d : Nat) (r0 : Nat) (x1 : Int32) (x2 : Int32) (x3 : Int32) (x4 : Int32) (w : q_Sm) (Q : s_Po) (X : s_Xo) : Prop := s_Ex (d + 1) 0 mX1_alike 6 [some (.ref (r0)), some (.int (x1)), some (.int (x2)), some (.int (x3)), some (.int (x4)), some (.int (0)), some (.int (0))] [] w Q X
def vX1_alike_6 (d : Nat) (r0 : Nat) (x1 : Int32) (x2 : Int32) (x3 : Int32) (x4 : Int32) (x5 : Int32) (x6 : Int32) (w : q_Sm) (Q : s_Po) (X : s_Xo) : Prop := (q_id 116 2 r0) ∧ (((w.1 r0 10) ≤ x6) → Q (some (.int (x5))) w) ∧ (¬ ((w.1 r0 10) ≤ x6) → ((¬ ((x1 >>> (x6 &&& 31)) &&& 1) = 1) → s_Ex (d + 1) 0 mX1_alike 6 [some (.ref (r0)), some (.int (x1)), some (.int (x2)), some (.int (x3)), some (.int (x4)), some (.int (x5)), some (.int (x6 + 1))] [] w Q X) ∧ (¬ (¬ ((x1 >>> (x6 &&& 31)) &&& 1) = 1) → q_id 116 2 r0 ∧ s_EvI d 0 mX2_shine w [.ref (r0), .int (x2 + x6), .int (x3)] (fun v1 u2 => ((¬ v1 = x4) → s_Ex (d + 1) 0 mX1_alike 6 [some (.ref (r0)), some (.int (x1)), some (.int (x2)), some (.int (x3)), some (.int (x4)), some (.int (x5)), some (.int (x6 + 1))] [] u2 Q X) ∧ (¬ (¬ v1 = x4) → s_Ex (d + 1) 0 mX1_alike 6 [some (.ref (r0)), some (.int (x1)), some (.int (x2)), some (.int (x3)), some (.int (x4)), some (.int (x5 + 1)), some (.int (x6 + 1))] [] u2 Q X)) X))
theorem xX1_alike_0 {d : Nat} {r0 : Nat} {x1 : Int32} {x2 : Int32} {x3 : Int32} {x4 : Int32} {w : q_Sm} {Q : s_Po} {X : s_Xo} (h : vX1_alike_0 d r0 x1 x2 x3 x4 w Q X) : s_Ex (d + 1) 0 mX1_alike 0 [some (.ref (r0)), some (.int (x1)), some (.int (x2)), some (.int (x3)), some (.int (x4)), none, none] [] w Q X := by
  unfold vX1_alike_0 at h
  refine s_blk [(.iconst 0, 1, 0, 0), (.istore 5, 2, 0, 0), (.iconst 0, 1, 0, 0), (.istore 6, 2, 0, 0)] 6 [some (.ref (r0)), some (.int (x1)), some (.int (x2)), some (.int (x3)), some (.int (x4)), some (.int (0)), some (.int (0))] [] w [] (by decide +kernel) (by refine qt_iconst qc_0 ?_; refine qt_istore (L' := [some (.ref (r0)), some (.int (x1)), some (.int (x2)), some (.int (x3)), some (.int (x4)), some (.int (0)), none]) rfl ?_; refine qt_iconst qc_0 ?_; refine qt_istore (L' := [some (.ref (r0)), some (.int (x1)), some (.int (x2)), some (.int (x3)), some (.int (x4)), some (.int (0)), some (.int (0))]) rfl ?_; exact qt_z rfl rfl rfl rfl rfl) trivial ?_
  exact h
theorem xX1_alike_6 {d : Nat} {r0 : Nat} {x1 : Int32} {x2 : Int32} {x3 : Int32} {x4 : Int32} {x5 : Int32} {x6 : Int32} {w : q_Sm} {Q : s_Po} {X : s_Xo} (h : vX1_alike_6 d r0 x1 x2 x3 x4 x5 x6 w Q X) : s_Ex (d + 1) 0 mX1_alike 6 [some (.ref (r0)), some (.int (x1)), some (.int (x2)), some (.int (x3)), some (.int (x4)), some (.int (x5)), some (.int (x6))] [] w Q X := by
  unfold vX1_alike_6 at h
  obtain ⟨ho3, h⟩ := h
  refine s_blk [(.iload 6, 2, 0, 0), (.aload_n 0, 1, 0, 0), (.getfield 59, 3, 2, 10)] 12 [some (.ref (r0)), some (.int (x1)), some (.int (x2)), some (.int (x3)), some (.int (x4)), some (.int (x5)), some (.int (x6))] [.int (w.1 r0 10), .int (x6)] w [q_id 116 2 r0] (by decide +kernel) (by refine qt_iload (x := x6) rfl ?_; refine qt_aload_n (r := r0) rfl ?_; refine qt_getI rfl ?_; exact qt_z rfl rfl rfl rfl rfl) ho3 ?_
  refine s_icmp (cd := .ge) (off := 36) 48 (by decide +kernel) (by decide) (fun hc => ?_) (fun hc => ?_)
  · replace h := h.1 hc
    refine s_blk [(.iload 5, 2, 0, 0)] 50 [some (.ref (r0)), some (.int (x1)), some (.int (x2)), some (.int (x3)), some (.int (x4)), some (.int (x5)), some (.int (x6))] [.int (x5)] w [] (by decide +kernel) (by refine qt_iload (x := x5) rfl ?_; exact qt_z rfl rfl rfl rfl rfl) trivial ?_
    exact s_retI .int (by decide +kernel) rfl rfl h
  · replace h := h.2 hc
    refine s_blk [(.iload_n 1, 1, 0, 0), (.iload 6, 2, 0, 0), (.ishr, 1, 0, 0), (.iconst 1, 1, 0, 0), (.iand, 1, 0, 0), (.iconst 1, 1, 0, 0)] 22 [some (.ref (r0)), some (.int (x1)), some (.int (x2)), some (.int (x3)), some (.int (x4)), some (.int (x5)), some (.int (x6))] [.int (1), .int ((x1 >>> (x6 &&& 31)) &&& 1)] w [] (by decide +kernel) (by refine qt_iload_n (x := x1) rfl ?_; refine qt_iload (x := x6) rfl ?_; refine qt_ishr ?_; refine qt_iconst qc_1 ?_; refine qt_iand ?_; refine qt_iconst qc_1 ?_; exact qt_z rfl rfl rfl rfl rfl) trivial ?_
    refine s_icmp (cd := .ne) (off := 20) 42 (by decide +kernel) (by decide) (fun hc => ?_) (fun hc => ?_)
    · replace h := h.1 hc
      refine s_blk [(.iinc 6 1, 3, 0, 0), (.goto (-39), 3, 6, 0)] 6 [some (.ref (r0)), some (.int (x1)), some (.int (x2)), some (.int (x3)), some (.int (x4)), some (.int (x5)), some (.int (x6 + 1))] [] w [] (by decide +kernel) (by refine qt_iinc (x := x6) (L' := [some (.ref (r0)), some (.int (x1)), some (.int (x2)), some (.int (x3)), some (.int (x4)), some (.int (x5)), some (.int (x6 + 1))]) rfl qc_1 rfl ?_; refine qt_goto ?_; exact qt_z rfl rfl rfl rfl rfl) trivial ?_
      exact h
    · replace h := h.2 hc
      refine s_blk [(.aload_n 0, 1, 0, 0), (.iload_n 2, 1, 0, 0), (.iload 6, 2, 0, 0), (.iadd, 1, 0, 0), (.iload_n 3, 1, 0, 0)] 31 [some (.ref (r0)), some (.int (x1)), some (.int (x2)), some (.int (x3)), some (.int (x4)), some (.int (x5)), some (.int (x6))] [.int (x3), .int (x2 + x6), .ref (r0)] w [] (by decide +kernel) (by refine qt_aload_n (r := r0) rfl ?_; refine qt_iload_n (x := x2) rfl ?_; refine qt_iload (x := x6) rfl ?_; refine qt_iadd ?_; refine qt_iload_n (x := x3) rfl ?_; exact qt_z rfl rfl rfl rfl rfl) trivial ?_
      obtain ⟨hid, h⟩ := h
      refine s_callV (a := 0) (a' := 0) (As := [.int (x2 + x6), .int (x3)]) (id := r0) (st := []) kX2_shine l_1_68 (by decide +kernel) hid rfl (Nat.le_of_ble_eq_true rfl) (s_mono h (s_I_of (fun v1 u2 h => ?_)) (fun _ _ h9 => h9))
      show s_Ex (d + 1) 0 mX1_alike 34 [some (.ref (r0)), some (.int (x1)), some (.int (x2)), some (.int (x3)), some (.int (x4)), some (.int (x5)), some (.int (x6))] [.int (v1)] u2 Q X
      refine s_blk [(.iload 4, 2, 0, 0)] 36 [some (.ref (r0)), some (.int (x1)), some (.int (x2)), some (.int (x3)), some (.int (x4)), some (.int (x5)), some (.int (x6))] [.int (x4), .int (v1)] u2 [] (by decide +kernel) (by refine qt_iload (x := x4) rfl ?_; exact qt_z rfl rfl rfl rfl rfl) trivial ?_
      refine s_icmp (cd := .ne) (off := 6) 42 (by decide +kernel) (by decide) (fun hc => ?_) (fun hc => ?_)
      · replace h := h.1 hc
        refine s_blk [(.iinc 6 1, 3, 0, 0), (.goto (-39), 3, 6, 0)] 6 [some (.ref (r0)), some (.int (x1)), some (.int (x2)), some (.int (x3)), some (.int (x4)), some (.int (x5)), some (.int (x6 + 1))] [] u2 [] (by decide +kernel) (by refine qt_iinc (x := x6) (L' := [some (.ref (r0)), some (.int (x1)), some (.int (x2)), some (.int (x3)), some (.int (x4)), some (.int (x5)), some (.int (x6 + 1))]) rfl qc_1 rfl ?_; refine qt_goto ?_; exact qt_z rfl rfl rfl rfl rfl) trivial ?_
        exact h
      · replace h := h.2 hc
        refine s_blk [(.iinc 5 1, 3, 0, 0), (.iinc 6 1, 3, 0, 0), (.goto (-39), 3, 6, 0)] 6 [some (.ref (r0)), some (.int (x1)), some (.int (x2)), some (.int (x3)), some (.int (x4)), some (.int (x5 + 1)), some (.int (x6 + 1))] [] u2 [] (by decide +kernel) (by refine qt_iinc (x := x5) (L' := [some (.ref (r0)), some (.int (x1)), some (.int (x2)), some (.int (x3)), some (.int (x4)), some (.int (x5 + 1)), some (.int (x6))]) rfl qc_1 rfl ?_; refine qt_iinc (x := x6) (L' := [some (.ref (r0)), some (.int (x1)), some (.int (x2)), some (.int (x3)), some (.int (x4)), some (.int (x5 + 1)), some (.int (x6 + 1))]) rfl qc_1 rfl ?_; refine qt_goto ?_; exact qt_z rfl rfl rfl rfl rfl) trivial ?_
        exact h
theorem eX1_alike {d : Nat} {r0 : Nat} {x1 : Int32} {x2 : Int32} {x3 : Int32} {x4 : Int32} {w : q_Sm} {Q : s_Po} {X : s_Xo} (h : vX1_alike_0 d r0 x1 x2 x3 x4 w Q X) : s_Ev (d + 1) 0 mX1_alike w [.ref (r0), .int (x1), .int (x2), .int (x3), .int (x4)] Q X := s_of (by decide) rfl (Nat.le_of_ble_eq_true rfl) (xX1_alike_0 h)
def vX9_read_0 (d : Nat) (r2 : Nat) (w : q_Sm) (Q : s_Po) (X : s_Xo) : Prop := ∀ w_1 : q_Sm, w_1 = q_wI w 52 3 0 → s_Ex (d + 1) 0 mX9_read 7 [some (.ref (52)), some (.ref (2)), some (.ref (r2)), some (.int (0))] [] w_1 Q X
def vX9_read_7 (d : Nat) (r2 : Nat) (x3 : Int32) (w : q_Sm) (Q : s_Po) (X : s_Xo) : Prop := ((150 ≤ x3) → Q none w) ∧ (¬ (150 ≤ x3) → s_EvI d 0 mX10_goesOn w [.ref (2)] (fun v2 u3 => ((v2 = 0) → Q none u3) ∧ (¬ (v2 = 0) → s_EvV d 0 mX9_readStep u3 [.ref (52), .ref (2), .ref (r2), .int (0)] (fun u5 => s_EvV d 0 mX10_need u5 [.ref (2), .int (59)] (fun u7 => s_Ex (d + 1) 0 mX9_read 7 [some (.ref (52)), some (.ref (2)), some (.ref (r2)), some (.int (x3 + 1))] [] u7 Q X) X) X)) X)
theorem xX9_read_0 {d : Nat} {r2 : Nat} {w : q_Sm} {Q : s_Po} {X : s_Xo} (h : vX9_read_0 d r2 w Q X) : s_Ex (d + 1) 0 mX9_read 0 [some (.ref (52)), some (.ref (2)), some (.ref (r2)), none] [] w Q X := by
  unfold vX9_read_0 at h
  replace h := h _ rfl
  refine s_blk [(.aload_n 0, 1, 0, 0), (.iconst 0, 1, 0, 0), (.putfield 21, 3, 9, 3), (.iconst 0, 1, 0, 0), (.istore_n 3, 1, 0, 0)] 7 [some (.ref (52)), some (.ref (2)), some (.ref (r2)), some (.int (0))] [] (q_wI w 52 3 0) [q_id 116 9 52] (by decide +kernel) (by refine qt_aload_n (r := 52) rfl ?_; refine qt_iconst qc_0 ?_; refine qt_putI rfl ?_; refine qt_iconst qc_0 ?_; refine qt_istore_n (L' := [some (.ref (52)), some (.ref (2)), some (.ref (r2)), some (.int (0))]) rfl ?_; exact qt_z rfl rfl rfl rfl rfl) (q_id_of rfl) ?_
  exact h
theorem xX9_read_7 {d : Nat} {r2 : Nat} {x3 : Int32} {w : q_Sm} {Q : s_Po} {X : s_Xo} (h : vX9_read_7 d r2 x3 w Q X) : s_Ex (d + 1) 0 mX9_read 7 [some (.ref (52)), some (.ref (2)), some (.ref (r2)), some (.int (x3))] [] w Q X := by
  unfold vX9_read_7 at h
  refine s_blk [(.iload_n 3, 1, 0, 0), (.sipush 150, 3, 0, 0)] 11 [some (.ref (52)), some (.ref (2)), some (.ref (r2)), some (.int (x3))] [.int (150), .int (x3)] w [] (by decide +kernel) (by refine qt_iload_n (x := x3) rfl ?_; refine qt_sipush qs_150 ?_; exact qt_z rfl rfl rfl rfl rfl) trivial ?_
  refine s_icmp (cd := .ge) (off := 29) 40 (by decide +kernel) (by decide) (fun hc => ?_) (fun hc => ?_)
  · replace h := h.1 hc
    exact s_retV (by decide +kernel) rfl h
  · replace h := h.2 hc
    refine s_blk [(.aload_n 1, 1, 0, 0)] 15 [some (.ref (52)), some (.ref (2)), some (.ref (r2)), some (.int (x3))] [.ref (2)] w [] (by decide +kernel) (by refine qt_aload_n (r := 2) rfl ?_; exact qt_z rfl rfl rfl rfl rfl) trivial ?_
    refine s_callV (a := 0) (a' := 0) (As := []) (id := 2) (st := []) kX10_goesOn l_9_25 (by decide +kernel) (q_id_of rfl) rfl (Nat.le_of_ble_eq_true rfl) (s_mono h (s_I_of (fun v2 u3 h => ?_)) (fun _ _ h9 => h9))
    show s_Ex (d + 1) 0 mX9_read 18 [some (.ref (52)), some (.ref (2)), some (.ref (r2)), some (.int (x3))] [.int (v2)] u3 Q X
    refine s_if (cd := .eq) (off := 22) 40 (by decide +kernel) (by decide) (fun hc => ?_) (fun hc => ?_)
    · replace h := h.1 hc
      exact s_retV (by decide +kernel) rfl h
    · replace h := h.2 hc
      refine s_blk [(.aload_n 0, 1, 0, 0), (.aload_n 1, 1, 0, 0), (.aload_n 2, 1, 0, 0), (.iconst 0, 1, 0, 0)] 25 [some (.ref (52)), some (.ref (2)), some (.ref (r2)), some (.int (x3))] [.int (0), .ref (r2), .ref (2), .ref (52)] u3 [] (by decide +kernel) (by refine qt_aload_n (r := 52) rfl ?_; refine qt_aload_n (r := 2) rfl ?_; refine qt_aload_n (r := r2) rfl ?_; refine qt_iconst qc_0 ?_; exact qt_z rfl rfl rfl rfl rfl) trivial ?_
      refine s_callV (a := 0) (a' := 0) (As := [.ref (2), .ref (r2), .int (0)]) (id := 52) (st := []) kX9_readStep l_9_31 (by decide +kernel) (q_id_of rfl) rfl (Nat.le_of_ble_eq_true rfl) (s_mono h (s_V_of (fun u5 h => ?_)) (fun _ _ h9 => h9))
      show s_Ex (d + 1) 0 mX9_read 28 [some (.ref (52)), some (.ref (2)), some (.ref (r2)), some (.int (x3))] [] u5 Q X
      refine s_blk [(.aload_n 1, 1, 0, 0), (.bipush 59, 2, 0, 0)] 31 [some (.ref (52)), some (.ref (2)), some (.ref (r2)), some (.int (x3))] [.int (59), .ref (2)] u5 [] (by decide +kernel) (by refine qt_aload_n (r := 2) rfl ?_; refine qt_bipush qb_59 ?_; exact qt_z rfl rfl rfl rfl rfl) trivial ?_
      refine s_callV (a := 0) (a' := 0) (As := [.int (59)]) (id := 2) (st := []) kX10_need l_9_35 (by decide +kernel) (q_id_of rfl) rfl (Nat.le_of_ble_eq_true rfl) (s_mono h (s_V_of (fun u7 h => ?_)) (fun _ _ h9 => h9))
      show s_Ex (d + 1) 0 mX9_read 34 [some (.ref (52)), some (.ref (2)), some (.ref (r2)), some (.int (x3))] [] u7 Q X
      refine s_blk [(.iinc 3 1, 3, 0, 0), (.goto (-30), 3, 7, 0)] 7 [some (.ref (52)), some (.ref (2)), some (.ref (r2)), some (.int (x3 + 1))] [] u7 [] (by decide +kernel) (by refine qt_iinc (x := x3) (L' := [some (.ref (52)), some (.ref (2)), some (.ref (r2)), some (.int (x3 + 1))]) rfl qc_1 rfl ?_; refine qt_goto ?_; exact qt_z rfl rfl rfl rfl rfl) trivial ?_
      exact h
theorem eX9_read {d : Nat} {r2 : Nat} {w : q_Sm} {Q : s_Po} {X : s_Xo} (h : vX9_read_0 d r2 w Q X) : s_Ev (d + 1) 0 mX9_read w [.ref (52), .ref (2), .ref (r2)] Q X := s_of (by decide) rfl (Nat.le_of_ble_eq_true rfl) (xX9_read_0 h)
def vX9_readStep_0 (d : Nat) (r2 : Nat) (x3 : Int32) (w : q_Sm) (Q : s_Po) (X : s_Xo) : Prop := s_EvV d 0 mX10_word w [.ref (2)] (fun u2 => s_EvI d 0 mX10_was u2 [.ref (2), .retAddr 21] (fun v3 u4 => ((v3 = 0) → s_EvI d 0 mX10_was u4 [.ref (2), .retAddr 22] (fun v5 u6 => ((v5 = 0) → s_EvI d 0 mX10_was u6 [.ref (2), .retAddr 23] (fun v7 u8 => ((v7 = 0) → s_EvI d 0 mX10_was u8 [.ref (2), .retAddr 24] (fun v9 u10 => ((v9 = 0) → s_EvI d 0 mX10_was u10 [.ref (2), .retAddr 25] (fun v11 u12 => ((v11 = 0) → s_EvI d 0 mX10_was u12 [.ref (2), .retAddr 26] (fun v13 u14 => ((v13 = 0) → s_EvI d 0 mX10_startOfLast u14 [.ref (2)] (fun v15 u16 => s_EvV d 0 mX10_blame u16 [.ref (2), .int (1), .int (v15)] (fun u18 => Q none u18) X) X) ∧ (¬ (v13 = 0) → s_EvV d 0 mX9_readAgain u14 [.ref (52), .ref (2), .ref (r2), .int (x3)] (fun u20 => Q none u20) X)) X) ∧ (¬ (v11 = 0) → s_EvV d 0 mX9_add u12 [.ref (52), .int (4), .int (0), .int (0)] (fun u22 => Q none u22) X)) X) ∧ (¬ (v9 = 0) → (q_id 116 2 r2) ∧ s_EvI d 0 mX10_number u10 [.ref (2), .int (0), .int ((u10.1 r2 3) - 1)] (fun v23 u24 => (q_id 116 2 r2) ∧ s_EvI d 0 mX10_number u24 [.ref (2), .int (0), .int ((u24.1 r2 0) - 1)] (fun v25 u26 => s_EvV d 0 mX9_add u26 [.ref (52), .int (3), .int (v23), .int (v25)] (fun u28 => Q none u28) X) X) X)) X) ∧ (¬ (v7 = 0) → s_EvI d 0 mX10_colour u8 [.ref (2)] (fun v31 u32 => s_EvI d 0 mX10_number u32 [.ref (2), .int (1), .int (99)] (fun v33 u34 => s_EvV d 0 mX9_add u34 [.ref (52), .int (2), .int (v31), .int (v33)] (fun u36 => Q none u36) X) X) X)) X) ∧ (¬ (v5 = 0) → (q_id 116 2 r2) ∧ s_EvI d 0 mX10_number u6 [.ref (2), .int (0), .int ((u6.1 r2 3) - 1)] (fun v37 u38 => s_EvV d 0 mX9_add u38 [.ref (52), .int (1), .int (v37), .int (0)] (fun u40 => Q none u40) X) X)) X) ∧ (¬ (v3 = 0) → (q_id 116 2 r2) ∧ s_EvI d 0 mX10_number u4 [.ref (2), .int (0), .int ((u4.1 r2 3) - 1)] (fun v42 u43 => s_EvI d 0 mX10_number u43 [.ref (2), .int (1), .int (99)] (fun v44 u45 => s_EvV d 0 mX9_add u45 [.ref (52), .int (0), .int (v42), .int (v44)] (fun u47 => Q none u47) X) X) X)) X) X
theorem xX9_readStep_0 {d : Nat} {r2 : Nat} {x3 : Int32} {w : q_Sm} {Q : s_Po} {X : s_Xo} (h : vX9_readStep_0 d r2 x3 w Q X) : s_Ex (d + 1) 0 mX9_readStep 0 [some (.ref (52)), some (.ref (2)), some (.ref (r2)), some (.int (x3)), none] [] w Q X := by
  unfold vX9_readStep_0 at h
  refine s_blk [(.aload_n 1, 1, 0, 0)] 1 [some (.ref (52)), some (.ref (2)), some (.ref (r2)), some (.int (x3)), none] [.ref (2)] w [] (by decide +kernel) (by refine qt_aload_n (r := 2) rfl ?_; exact qt_z rfl rfl rfl rfl rfl) trivial ?_
  refine s_callV (a := 0) (a' := 0) (As := []) (id := 2) (st := []) kX10_word l_9_39 (by decide +kernel) (q_id_of rfl) rfl (Nat.le_of_ble_eq_true rfl) (s_mono h (s_V_of (fun u2 h => ?_)) (fun _ _ h9 => h9))
  show s_Ex (d + 1) 0 mX9_readStep 4 [some (.ref (52)), some (.ref (2)), some (.ref (r2)), some (.int (x3)), none] [] u2 Q X
  refine s_blk [(.aload_n 1, 1, 0, 0), (.ldc 42, 2, 1, 21)] 7 [some (.ref (52)), some (.ref (2)), some (.ref (r2)), some (.int (x3)), none] [.retAddr 21, .ref (2)] u2 [] (by decide +kernel) (by refine qt_aload_n (r := 2) rfl ?_; refine qt_ldcS ?_; exact qt_z rfl rfl rfl rfl rfl) trivial ?_
  refine s_callV (a := 0) (a' := 0) (As := [.retAddr 21]) (id := 2) (st := []) kX10_was l_9_44 (by decide +kernel) (q_id_of rfl) rfl (Nat.le_of_ble_eq_true rfl) (s_mono h (s_I_of (fun v3 u4 h => ?_)) (fun _ _ h9 => h9))
  show s_Ex (d + 1) 0 mX9_readStep 10 [some (.ref (52)), some (.ref (2)), some (.ref (r2)), some (.int (x3)), none] [.int (v3)] u4 Q X
  refine s_if (cd := .eq) (off := 33) 43 (by decide +kernel) (by decide) (fun hc => ?_) (fun hc => ?_)
  · replace h := h.1 hc
    refine s_blk [(.aload_n 1, 1, 0, 0), (.ldc 61, 2, 1, 22)] 46 [some (.ref (52)), some (.ref (2)), some (.ref (r2)), some (.int (x3)), none] [.retAddr 22, .ref (2)] u4 [] (by decide +kernel) (by refine qt_aload_n (r := 2) rfl ?_; refine qt_ldcS ?_; exact qt_z rfl rfl rfl rfl rfl) trivial ?_
    refine s_callV (a := 0) (a' := 0) (As := [.retAddr 22]) (id := 2) (st := []) kX10_was l_9_44 (by decide +kernel) (q_id_of rfl) rfl (Nat.le_of_ble_eq_true rfl) (s_mono h (s_I_of (fun v5 u6 h => ?_)) (fun _ _ h9 => h9))
    show s_Ex (d + 1) 0 mX9_readStep 49 [some (.ref (52)), some (.ref (2)), some (.ref (r2)), some (.int (x3)), none] [.int (v5)] u6 Q X
    refine s_if (cd := .eq) (off := 23) 72 (by decide +kernel) (by decide) (fun hc => ?_) (fun hc => ?_)
    · replace h := h.1 hc
      refine s_blk [(.aload_n 1, 1, 0, 0), (.ldc 63, 2, 1, 23)] 75 [some (.ref (52)), some (.ref (2)), some (.ref (r2)), some (.int (x3)), none] [.retAddr 23, .ref (2)] u6 [] (by decide +kernel) (by refine qt_aload_n (r := 2) rfl ?_; refine qt_ldcS ?_; exact qt_z rfl rfl rfl rfl rfl) trivial ?_
      refine s_callV (a := 0) (a' := 0) (As := [.retAddr 23]) (id := 2) (st := []) kX10_was l_9_44 (by decide +kernel) (q_id_of rfl) rfl (Nat.le_of_ble_eq_true rfl) (s_mono h (s_I_of (fun v7 u8 h => ?_)) (fun _ _ h9 => h9))
      show s_Ex (d + 1) 0 mX9_readStep 78 [some (.ref (52)), some (.ref (2)), some (.ref (r2)), some (.int (x3)), none] [.int (v7)] u8 Q X
      refine s_if (cd := .eq) (off := 26) 104 (by decide +kernel) (by decide) (fun hc => ?_) (fun hc => ?_)
      · replace h := h.1 hc
        refine s_blk [(.aload_n 1, 1, 0, 0), (.ldc 69, 2, 1, 24)] 107 [some (.ref (52)), some (.ref (2)), some (.ref (r2)), some (.int (x3)), none] [.retAddr 24, .ref (2)] u8 [] (by decide +kernel) (by refine qt_aload_n (r := 2) rfl ?_; refine qt_ldcS ?_; exact qt_z rfl rfl rfl rfl rfl) trivial ?_
        refine s_callV (a := 0) (a' := 0) (As := [.retAddr 24]) (id := 2) (st := []) kX10_was l_9_44 (by decide +kernel) (q_id_of rfl) rfl (Nat.le_of_ble_eq_true rfl) (s_mono h (s_I_of (fun v9 u10 h => ?_)) (fun _ _ h9 => h9))
        show s_Ex (d + 1) 0 mX9_readStep 110 [some (.ref (52)), some (.ref (2)), some (.ref (r2)), some (.int (x3)), none] [.int (v9)] u10 Q X
        refine s_if (cd := .eq) (off := 37) 147 (by decide +kernel) (by decide) (fun hc => ?_) (fun hc => ?_)
        · replace h := h.1 hc
          refine s_blk [(.aload_n 1, 1, 0, 0), (.ldc 74, 2, 1, 25)] 150 [some (.ref (52)), some (.ref (2)), some (.ref (r2)), some (.int (x3)), none] [.retAddr 25, .ref (2)] u10 [] (by decide +kernel) (by refine qt_aload_n (r := 2) rfl ?_; refine qt_ldcS ?_; exact qt_z rfl rfl rfl rfl rfl) trivial ?_
          refine s_callV (a := 0) (a' := 0) (As := [.retAddr 25]) (id := 2) (st := []) kX10_was l_9_44 (by decide +kernel) (q_id_of rfl) rfl (Nat.le_of_ble_eq_true rfl) (s_mono h (s_I_of (fun v11 u12 h => ?_)) (fun _ _ h9 => h9))
          show s_Ex (d + 1) 0 mX9_readStep 153 [some (.ref (52)), some (.ref (2)), some (.ref (r2)), some (.int (x3)), none] [.int (v11)] u12 Q X
          refine s_if (cd := .eq) (off := 13) 166 (by decide +kernel) (by decide) (fun hc => ?_) (fun hc => ?_)
          · replace h := h.1 hc
            refine s_blk [(.aload_n 1, 1, 0, 0), (.ldc 76, 2, 1, 26)] 169 [some (.ref (52)), some (.ref (2)), some (.ref (r2)), some (.int (x3)), none] [.retAddr 26, .ref (2)] u12 [] (by decide +kernel) (by refine qt_aload_n (r := 2) rfl ?_; refine qt_ldcS ?_; exact qt_z rfl rfl rfl rfl rfl) trivial ?_
            refine s_callV (a := 0) (a' := 0) (As := [.retAddr 26]) (id := 2) (st := []) kX10_was l_9_44 (by decide +kernel) (q_id_of rfl) rfl (Nat.le_of_ble_eq_true rfl) (s_mono h (s_I_of (fun v13 u14 h => ?_)) (fun _ _ h9 => h9))
            show s_Ex (d + 1) 0 mX9_readStep 172 [some (.ref (52)), some (.ref (2)), some (.ref (r2)), some (.int (x3)), none] [.int (v13)] u14 Q X
            refine s_if (cd := .eq) (off := 13) 185 (by decide +kernel) (by decide) (fun hc => ?_) (fun hc => ?_)
            · replace h := h.1 hc
              refine s_blk [(.aload_n 1, 1, 0, 0), (.iconst 1, 1, 0, 0), (.aload_n 1, 1, 0, 0)] 188 [some (.ref (52)), some (.ref (2)), some (.ref (r2)), some (.int (x3)), none] [.ref (2), .int (1), .ref (2)] u14 [] (by decide +kernel) (by refine qt_aload_n (r := 2) rfl ?_; refine qt_iconst qc_1 ?_; refine qt_aload_n (r := 2) rfl ?_; exact qt_z rfl rfl rfl rfl rfl) trivial ?_
              refine s_callV (a := 0) (a' := 0) (As := []) (id := 2) (st := [.int (1), .ref (2)]) kX10_startOfLast l_9_81 (by decide +kernel) (q_id_of rfl) rfl (Nat.le_of_ble_eq_true rfl) (s_mono h (s_I_of (fun v15 u16 h => ?_)) (fun _ _ h9 => h9))
              show s_Ex (d + 1) 0 mX9_readStep 191 [some (.ref (52)), some (.ref (2)), some (.ref (r2)), some (.int (x3)), none] [.int (v15), .int (1), .ref (2)] u16 Q X
              refine s_callV (a := 0) (a' := 0) (As := [.int (1), .int (v15)]) (id := 2) (st := []) kX10_blame l_9_84 (by decide +kernel) (q_id_of rfl) rfl (Nat.le_of_ble_eq_true rfl) (s_mono h (s_V_of (fun u18 h => ?_)) (fun _ _ h9 => h9))
              show s_Ex (d + 1) 0 mX9_readStep 194 [some (.ref (52)), some (.ref (2)), some (.ref (r2)), some (.int (x3)), none] [] u18 Q X
              exact s_retV (by decide +kernel) rfl h
            · replace h := h.2 hc
              refine s_blk [(.aload_n 0, 1, 0, 0), (.aload_n 1, 1, 0, 0), (.aload_n 2, 1, 0, 0), (.iload_n 3, 1, 0, 0)] 179 [some (.ref (52)), some (.ref (2)), some (.ref (r2)), some (.int (x3)), none] [.int (x3), .ref (r2), .ref (2), .ref (52)] u14 [] (by decide +kernel) (by refine qt_aload_n (r := 52) rfl ?_; refine qt_aload_n (r := 2) rfl ?_; refine qt_aload_n (r := r2) rfl ?_; refine qt_iload_n (x := x3) rfl ?_; exact qt_z rfl rfl rfl rfl rfl) trivial ?_
              refine s_callV (a := 0) (a' := 0) (As := [.ref (2), .ref (r2), .int (x3)]) (id := 52) (st := []) kX9_readAgain l_9_78 (by decide +kernel) (q_id_of rfl) rfl (Nat.le_of_ble_eq_true rfl) (s_mono h (s_V_of (fun u20 h => ?_)) (fun _ _ h9 => h9))
              show s_Ex (d + 1) 0 mX9_readStep 182 [some (.ref (52)), some (.ref (2)), some (.ref (r2)), some (.int (x3)), none] [] u20 Q X
              refine s_blk [(.goto 12, 3, 194, 0)] 194 [some (.ref (52)), some (.ref (2)), some (.ref (r2)), some (.int (x3)), none] [] u20 [] (by decide +kernel) (by refine qt_goto ?_; exact qt_z rfl rfl rfl rfl rfl) trivial ?_
              exact s_retV (by decide +kernel) rfl h
          · replace h := h.2 hc
            refine s_blk [(.aload_n 0, 1, 0, 0), (.iconst 4, 1, 0, 0), (.iconst 0, 1, 0, 0), (.iconst 0, 1, 0, 0)] 160 [some (.ref (52)), some (.ref (2)), some (.ref (r2)), some (.int (x3)), none] [.int (0), .int (0), .int (4), .ref (52)] u12 [] (by decide +kernel) (by refine qt_aload_n (r := 52) rfl ?_; refine qt_iconst qc_4 ?_; refine qt_iconst qc_0 ?_; refine qt_iconst qc_0 ?_; exact qt_z rfl rfl rfl rfl rfl) trivial ?_
            refine s_callV (a := 0) (a' := 0) (As := [.int (4), .int (0), .int (0)]) (id := 52) (st := []) kX9_add l_9_57 (by decide +kernel) (q_id_of rfl) rfl (Nat.le_of_ble_eq_true rfl) (s_mono h (s_V_of (fun u22 h => ?_)) (fun _ _ h9 => h9))
            show s_Ex (d + 1) 0 mX9_readStep 163 [some (.ref (52)), some (.ref (2)), some (.ref (r2)), some (.int (x3)), none] [] u22 Q X
            refine s_blk [(.goto 31, 3, 194, 0)] 194 [some (.ref (52)), some (.ref (2)), some (.ref (r2)), some (.int (x3)), none] [] u22 [] (by decide +kernel) (by refine qt_goto ?_; exact qt_z rfl rfl rfl rfl rfl) trivial ?_
            exact s_retV (by decide +kernel) rfl h
        · replace h := h.2 hc
          obtain ⟨ho30, h⟩ := h
          refine s_blk [(.aload_n 1, 1, 0, 0), (.iconst 0, 1, 0, 0), (.aload_n 2, 1, 0, 0), (.getfield 48, 3, 2, 3), (.iconst 1, 1, 0, 0), (.isub, 1, 0, 0)] 121 [some (.ref (52)), some (.ref (2)), some (.ref (r2)), some (.int (x3)), none] [.int ((u10.1 r2 3) - 1), .int (0), .ref (2)] u10 [q_id 116 2 r2] (by decide +kernel) (by refine qt_aload_n (r := 2) rfl ?_; refine qt_iconst qc_0 ?_; refine qt_aload_n (r := r2) rfl ?_; refine qt_getI rfl ?_; refine qt_iconst qc_1 ?_; refine qt_isub ?_; exact qt_z rfl rfl rfl rfl rfl) ho30 ?_
          refine s_callV (a := 0) (a' := 0) (As := [.int (0), .int ((u10.1 r2 3) - 1)]) (id := 2) (st := []) kX10_number l_9_53 (by decide +kernel) (q_id_of rfl) rfl (Nat.le_of_ble_eq_true rfl) (s_mono h (s_I_of (fun v23 u24 h => ?_)) (fun _ _ h9 => h9))
          show s_Ex (d + 1) 0 mX9_readStep 124 [some (.ref (52)), some (.ref (2)), some (.ref (r2)), some (.int (x3)), none] [.int (v23)] u24 Q X
          obtain ⟨ho29, h⟩ := h
          refine s_blk [(.istore 4, 2, 0, 0), (.aload_n 0, 1, 0, 0), (.iconst 3, 1, 0, 0), (.iload 4, 2, 0, 0), (.aload_n 1, 1, 0, 0), (.iconst 0, 1, 0, 0), (.aload_n 2, 1, 0, 0), (.getfield 71, 3, 2, 0), (.iconst 1, 1, 0, 0), (.isub, 1, 0, 0)] 138 [some (.ref (52)), some (.ref (2)), some (.ref (r2)), some (.int (x3)), some (.int (v23))] [.int ((u24.1 r2 0) - 1), .int (0), .ref (2), .int (v23), .int (3), .ref (52)] u24 [q_id 116 2 r2] (by decide +kernel) (by refine qt_istore (L' := [some (.ref (52)), some (.ref (2)), some (.ref (r2)), some (.int (x3)), some (.int (v23))]) rfl ?_; refine qt_aload_n (r := 52) rfl ?_; refine qt_iconst qc_3 ?_; refine qt_iload (x := v23) rfl ?_; refine qt_aload_n (r := 2) rfl ?_; refine qt_iconst qc_0 ?_; refine qt_aload_n (r := r2) rfl ?_; refine qt_getI rfl ?_; refine qt_iconst qc_1 ?_; refine qt_isub ?_; exact qt_z rfl rfl rfl rfl rfl) ho29 ?_
          refine s_callV (a := 0) (a' := 0) (As := [.int (0), .int ((u24.1 r2 0) - 1)]) (id := 2) (st := [.int (v23), .int (3), .ref (52)]) kX10_number l_9_53 (by decide +kernel) (q_id_of rfl) rfl (Nat.le_of_ble_eq_true rfl) (s_mono h (s_I_of (fun v25 u26 h => ?_)) (fun _ _ h9 => h9))
          show s_Ex (d + 1) 0 mX9_readStep 141 [some (.ref (52)), some (.ref (2)), some (.ref (r2)), some (.int (x3)), some (.int (v23))] [.int (v25), .int (v23), .int (3), .ref (52)] u26 Q X
          refine s_callV (a := 0) (a' := 0) (As := [.int (3), .int (v23), .int (v25)]) (id := 52) (st := []) kX9_add l_9_57 (by decide +kernel) (q_id_of rfl) rfl (Nat.le_of_ble_eq_true rfl) (s_mono h (s_V_of (fun u28 h => ?_)) (fun _ _ h9 => h9))
          show s_Ex (d + 1) 0 mX9_readStep 144 [some (.ref (52)), some (.ref (2)), some (.ref (r2)), some (.int (x3)), some (.int (v23))] [] u28 Q X
          refine s_blk [(.goto 50, 3, 194, 0)] 194 [some (.ref (52)), some (.ref (2)), some (.ref (r2)), some (.int (x3)), some (.int (v23))] [] u28 [] (by decide +kernel) (by refine qt_goto ?_; exact qt_z rfl rfl rfl rfl rfl) trivial ?_
          exact s_retV (by decide +kernel) rfl h
      · replace h := h.2 hc
        refine s_blk [(.aload_n 1, 1, 0, 0)] 82 [some (.ref (52)), some (.ref (2)), some (.ref (r2)), some (.int (x3)), none] [.ref (2)] u8 [] (by decide +kernel) (by refine qt_aload_n (r := 2) rfl ?_; exact qt_z rfl rfl rfl rfl rfl) trivial ?_
        refine s_callV (a := 0) (a' := 0) (As := []) (id := 2) (st := []) kX10_colour l_9_65 (by decide +kernel) (q_id_of rfl) rfl (Nat.le_of_ble_eq_true rfl) (s_mono h (s_I_of (fun v31 u32 h => ?_)) (fun _ _ h9 => h9))
        show s_Ex (d + 1) 0 mX9_readStep 85 [some (.ref (52)), some (.ref (2)), some (.ref (r2)), some (.int (x3)), none] [.int (v31)] u32 Q X
        refine s_blk [(.istore 4, 2, 0, 0), (.aload_n 0, 1, 0, 0), (.iconst 2, 1, 0, 0), (.iload 4, 2, 0, 0), (.aload_n 1, 1, 0, 0), (.iconst 1, 1, 0, 0), (.bipush 99, 2, 0, 0)] 95 [some (.ref (52)), some (.ref (2)), some (.ref (r2)), some (.int (x3)), some (.int (v31))] [.int (99), .int (1), .ref (2), .int (v31), .int (2), .ref (52)] u32 [] (by decide +kernel) (by refine qt_istore (L' := [some (.ref (52)), some (.ref (2)), some (.ref (r2)), some (.int (x3)), some (.int (v31))]) rfl ?_; refine qt_aload_n (r := 52) rfl ?_; refine qt_iconst qc_2 ?_; refine qt_iload (x := v31) rfl ?_; refine qt_aload_n (r := 2) rfl ?_; refine qt_iconst qc_1 ?_; refine qt_bipush qb_99 ?_; exact qt_z rfl rfl rfl rfl rfl) trivial ?_
        refine s_callV (a := 0) (a' := 0) (As := [.int (1), .int (99)]) (id := 2) (st := [.int (v31), .int (2), .ref (52)]) kX10_number l_9_53 (by decide +kernel) (q_id_of rfl) rfl (Nat.le_of_ble_eq_true rfl) (s_mono h (s_I_of (fun v33 u34 h => ?_)) (fun _ _ h9 => h9))
        show s_Ex (d + 1) 0 mX9_readStep 98 [some (.ref (52)), some (.ref (2)), some (.ref (r2)), some (.int (x3)), some (.int (v31))] [.int (v33), .int (v31), .int (2), .ref (52)] u34 Q X
        refine s_callV (a := 0) (a' := 0) (As := [.int (2), .int (v31), .int (v33)]) (id := 52) (st := []) kX9_add l_9_57 (by decide +kernel) (q_id_of rfl) rfl (Nat.le_of_ble_eq_true rfl) (s_mono h (s_V_of (fun u36 h => ?_)) (fun _ _ h9 => h9))
        show s_Ex (d + 1) 0 mX9_readStep 101 [some (.ref (52)), some (.ref (2)), some (.ref (r2)), some (.int (x3)), some (.int (v31))] [] u36 Q X
        refine s_blk [(.goto 93, 3, 194, 0)] 194 [some (.ref (52)), some (.ref (2)), some (.ref (r2)), some (.int (x3)), some (.int (v31))] [] u36 [] (by decide +kernel) (by refine qt_goto ?_; exact qt_z rfl rfl rfl rfl rfl) trivial ?_
        exact s_retV (by decide +kernel) rfl h
    · replace h := h.2 hc
      obtain ⟨ho41, h⟩ := h
      refine s_blk [(.aload_n 0, 1, 0, 0), (.iconst 1, 1, 0, 0), (.aload_n 1, 1, 0, 0), (.iconst 0, 1, 0, 0), (.aload_n 2, 1, 0, 0), (.getfield 48, 3, 2, 3), (.iconst 1, 1, 0, 0), (.isub, 1, 0, 0)] 62 [some (.ref (52)), some (.ref (2)), some (.ref (r2)), some (.int (x3)), none] [.int ((u6.1 r2 3) - 1), .int (0), .ref (2), .int (1), .ref (52)] u6 [q_id 116 2 r2] (by decide +kernel) (by refine qt_aload_n (r := 52) rfl ?_; refine qt_iconst qc_1 ?_; refine qt_aload_n (r := 2) rfl ?_; refine qt_iconst qc_0 ?_; refine qt_aload_n (r := r2) rfl ?_; refine qt_getI rfl ?_; refine qt_iconst qc_1 ?_; refine qt_isub ?_; exact qt_z rfl rfl rfl rfl rfl) ho41 ?_
      refine s_callV (a := 0) (a' := 0) (As := [.int (0), .int ((u6.1 r2 3) - 1)]) (id := 2) (st := [.int (1), .ref (52)]) kX10_number l_9_53 (by decide +kernel) (q_id_of rfl) rfl (Nat.le_of_ble_eq_true rfl) (s_mono h (s_I_of (fun v37 u38 h => ?_)) (fun _ _ h9 => h9))
      show s_Ex (d + 1) 0 mX9_readStep 65 [some (.ref (52)), some (.ref (2)), some (.ref (r2)), some (.int (x3)), none] [.int (v37), .int (1), .ref (52)] u38 Q X
      refine s_blk [(.iconst 0, 1, 0, 0)] 66 [some (.ref (52)), some (.ref (2)), some (.ref (r2)), some (.int (x3)), none] [.int (0), .int (v37), .int (1), .ref (52)] u38 [] (by decide +kernel) (by refine qt_iconst qc_0 ?_; exact qt_z rfl rfl rfl rfl rfl) trivial ?_
      refine s_callV (a := 0) (a' := 0) (As := [.int (1), .int (v37), .int (0)]) (id := 52) (st := []) kX9_add l_9_57 (by decide +kernel) (q_id_of rfl) rfl (Nat.le_of_ble_eq_true rfl) (s_mono h (s_V_of (fun u40 h => ?_)) (fun _ _ h9 => h9))
      show s_Ex (d + 1) 0 mX9_readStep 69 [some (.ref (52)), some (.ref (2)), some (.ref (r2)), some (.int (x3)), none] [] u40 Q X
      refine s_blk [(.goto 125, 3, 194, 0)] 194 [some (.ref (52)), some (.ref (2)), some (.ref (r2)), some (.int (x3)), none] [] u40 [] (by decide +kernel) (by refine qt_goto ?_; exact qt_z rfl rfl rfl rfl rfl) trivial ?_
      exact s_retV (by decide +kernel) rfl h
  · replace h := h.2 hc
    obtain ⟨ho48, h⟩ := h
    refine s_blk [(.aload_n 1, 1, 0, 0), (.iconst 0, 1, 0, 0), (.aload_n 2, 1, 0, 0), (.getfield 48, 3, 2, 3), (.iconst 1, 1, 0, 0), (.isub, 1, 0, 0)] 21 [some (.ref (52)), some (.ref (2)), some (.ref (r2)), some (.int (x3)), none] [.int ((u4.1 r2 3) - 1), .int (0), .ref (2)] u4 [q_id 116 2 r2] (by decide +kernel) (by refine qt_aload_n (r := 2) rfl ?_; refine qt_iconst qc_0 ?_; refine qt_aload_n (r := r2) rfl ?_; refine qt_getI rfl ?_; refine qt_iconst qc_1 ?_; refine qt_isub ?_; exact qt_z rfl rfl rfl rfl rfl) ho48 ?_
    refine s_callV (a := 0) (a' := 0) (As := [.int (0), .int ((u4.1 r2 3) - 1)]) (id := 2) (st := []) kX10_number l_9_53 (by decide +kernel) (q_id_of rfl) rfl (Nat.le_of_ble_eq_true rfl) (s_mono h (s_I_of (fun v42 u43 h => ?_)) (fun _ _ h9 => h9))
    show s_Ex (d + 1) 0 mX9_readStep 24 [some (.ref (52)), some (.ref (2)), some (.ref (r2)), some (.int (x3)), none] [.int (v42)] u43 Q X
    refine s_blk [(.istore 4, 2, 0, 0), (.aload_n 0, 1, 0, 0), (.iconst 0, 1, 0, 0), (.iload 4, 2, 0, 0), (.aload_n 1, 1, 0, 0), (.iconst 1, 1, 0, 0), (.bipush 99, 2, 0, 0)] 34 [some (.ref (52)), some (.ref (2)), some (.ref (r2)), some (.int (x3)), some (.int (v42))] [.int (99), .int (1), .ref (2), .int (v42), .int (0), .ref (52)] u43 [] (by decide +kernel) (by refine qt_istore (L' := [some (.ref (52)), some (.ref (2)), some (.ref (r2)), some (.int (x3)), some (.int (v42))]) rfl ?_; refine qt_aload_n (r := 52) rfl ?_; refine qt_iconst qc_0 ?_; refine qt_iload (x := v42) rfl ?_; refine qt_aload_n (r := 2) rfl ?_; refine qt_iconst qc_1 ?_; refine qt_bipush qb_99 ?_; exact qt_z rfl rfl rfl rfl rfl) trivial ?_
    refine s_callV (a := 0) (a' := 0) (As := [.int (1), .int (99)]) (id := 2) (st := [.int (v42), .int (0), .ref (52)]) kX10_number l_9_53 (by decide +kernel) (q_id_of rfl) rfl (Nat.le_of_ble_eq_true rfl) (s_mono h (s_I_of (fun v44 u45 h => ?_)) (fun _ _ h9 => h9))
    show s_Ex (d + 1) 0 mX9_readStep 37 [some (.ref (52)), some (.ref (2)), some (.ref (r2)), some (.int (x3)), some (.int (v42))] [.int (v44), .int (v42), .int (0), .ref (52)] u45 Q X
    refine s_callV (a := 0) (a' := 0) (As := [.int (0), .int (v42), .int (v44)]) (id := 52) (st := []) kX9_add l_9_57 (by decide +kernel) (q_id_of rfl) rfl (Nat.le_of_ble_eq_true rfl) (s_mono h (s_V_of (fun u47 h => ?_)) (fun _ _ h9 => h9))
    show s_Ex (d + 1) 0 mX9_readStep 40 [some (.ref (52)), some (.ref (2)), some (.ref (r2)), some (.int (x3)), some (.int (v42))] [] u47 Q X
    refine s_blk [(.goto 154, 3, 194, 0)] 194 [some (.ref (52)), some (.ref (2)), some (.ref (r2)), some (.int (x3)), some (.int (v42))] [] u47 [] (by decide +kernel) (by refine qt_goto ?_; exact qt_z rfl rfl rfl rfl rfl) trivial ?_
    exact s_retV (by decide +kernel) rfl h
theorem eX9_readStep {d : Nat} {r2 : Nat} {x3 : Int32} {w : q_Sm} {Q : s_Po} {X : s_Xo} (h : vX9_readStep_0 d r2 x3 w Q X) : s_Ev (d + 1) 0 mX9_readStep w [.ref (52), .ref (2), .ref (r2), .int (x3)] Q X := s_of (by decide) rfl (Nat.le_of_ble_eq_true rfl) (xX9_readStep_0 h)
def vX9_readAgain_0 (d : Nat) (r2 : Nat) (x3 : Int32) (w : q_Sm) (Q : s_Po) (X : s_Xo) : Prop := ((x3 < 6) → s_EvI d 0 mX10_number w [.ref (2), .int (0), .int (20)] (fun v1 u2 => s_EvV d 0 mX9_add u2 [.ref (52), .int (5), .int (v1), .int (0)] (fun u4 => s_EvV d 0 mX10_need u4 [.ref (2), .int (91)] (fun u6 => s_Ex (d + 1) 0 mX9_readAgain 44 [some (.ref (52)), some (.ref (2)), some (.ref (r2)), some (.int (x3)), some (.int (w.1 52 3)), some (.int (0))] [] u6 Q X) X) X) X) ∧ (¬ (x3 < 6) → s_EvI d 0 mX10_startOfLast w [.ref (2)] (fun v7 u8 => s_EvV d 0 mX10_blame u8 [.ref (2), .int (3), .int (v7)] (fun u10 => Q none u10) X) X)
def vX9_readAgain_44 (d : Nat) (r2 : Nat) (x3 : Int32) (x4 : Int32) (x5 : Int32) (w : q_Sm) (Q : s_Po) (X : s_Xo) : Prop := ((150 ≤ x5) → ((150 ≤ x4) → Q none w) ∧ (¬ (150 ≤ x4) → (vp_in x4 150) ∧ ∀ w_11 : q_Sm, w_11 = q_wI w 55 (Int32.toNatClampNeg x4) (w.1 52 3) → Q none w_11)) ∧ (¬ (150 ≤ x5) → s_EvI d 0 mX10_failed w [.ref (2)] (fun v13 u14 => ((¬ v13 = 0) → ((150 ≤ x4) → Q none u14) ∧ (¬ (150 ≤ x4) → (vp_in x4 150) ∧ ∀ w_15 : q_Sm, w_15 = q_wI u14 55 (Int32.toNatClampNeg x4) (u14.1 52 3) → Q none w_15)) ∧ (¬ (¬ v13 = 0) → s_EvI d 0 mX10_takes u14 [.ref (2), .int (93)] (fun v17 u18 => ((¬ v17 = 0) → ((150 ≤ x4) → Q none u18) ∧ (¬ (150 ≤ x4) → (vp_in x4 150) ∧ ∀ w_19 : q_Sm, w_19 = q_wI u18 55 (Int32.toNatClampNeg x4) (u18.1 52 3) → Q none w_19)) ∧ (¬ (¬ v17 = 0) → s_EvV d 0 mX9_readStep u18 [.ref (52), .ref (2), .ref (r2), .int (x3 + 1)] (fun u22 => s_EvV d 0 mX10_need u22 [.ref (2), .int (59)] (fun u24 => s_Ex (d + 1) 0 mX9_readAgain 44 [some (.ref (52)), some (.ref (2)), some (.ref (r2)), some (.int (x3)), some (.int (x4)), some (.int (x5 + 1))] [] u24 Q X) X) X)) X)) X)
theorem xX9_readAgain_0 {d : Nat} {r2 : Nat} {x3 : Int32} {w : q_Sm} {Q : s_Po} {X : s_Xo} (h : vX9_readAgain_0 d r2 x3 w Q X) : s_Ex (d + 1) 0 mX9_readAgain 0 [some (.ref (52)), some (.ref (2)), some (.ref (r2)), some (.int (x3)), none, none] [] w Q X := by
  unfold vX9_readAgain_0 at h
  refine s_blk [(.iload_n 3, 1, 0, 0), (.bipush 6, 2, 0, 0)] 3 [some (.ref (52)), some (.ref (2)), some (.ref (r2)), some (.int (x3)), none, none] [.int (6), .int (x3)] w [] (by decide +kernel) (by refine qt_iload_n (x := x3) rfl ?_; refine qt_bipush qb_6 ?_; exact qt_z rfl rfl rfl rfl rfl) trivial ?_
  refine s_icmp (cd := .lt) (off := 13) 16 (by decide +kernel) (by decide) (fun hc => ?_) (fun hc => ?_)
  · replace h := h.1 hc
    refine s_blk [(.aload_n 0, 1, 0, 0), (.getfield 21, 3, 9, 3), (.istore 4, 2, 0, 0), (.aload_n 0, 1, 0, 0), (.iconst 5, 1, 0, 0), (.aload_n 1, 1, 0, 0), (.iconst 0, 1, 0, 0), (.bipush 20, 2, 0, 0)] 28 [some (.ref (52)), some (.ref (2)), some (.ref (r2)), some (.int (x3)), some (.int (w.1 52 3)), none] [.int (20), .int (0), .ref (2), .int (5), .ref (52)] w [q_id 116 9 52] (by decide +kernel) (by refine qt_aload_n (r := 52) rfl ?_; refine qt_getI rfl ?_; refine qt_istore (L' := [some (.ref (52)), some (.ref (2)), some (.ref (r2)), some (.int (x3)), some (.int (w.1 52 3)), none]) rfl ?_; refine qt_aload_n (r := 52) rfl ?_; refine qt_iconst qc_5 ?_; refine qt_aload_n (r := 2) rfl ?_; refine qt_iconst qc_0 ?_; refine qt_bipush qb_20 ?_; exact qt_z rfl rfl rfl rfl rfl) (q_id_of rfl) ?_
    refine s_callV (a := 0) (a' := 0) (As := [.int (0), .int (20)]) (id := 2) (st := [.int (5), .ref (52)]) kX10_number l_9_53 (by decide +kernel) (q_id_of rfl) rfl (Nat.le_of_ble_eq_true rfl) (s_mono h (s_I_of (fun v1 u2 h => ?_)) (fun _ _ h9 => h9))
    show s_Ex (d + 1) 0 mX9_readAgain 31 [some (.ref (52)), some (.ref (2)), some (.ref (r2)), some (.int (x3)), some (.int (w.1 52 3)), none] [.int (v1), .int (5), .ref (52)] u2 Q X
    refine s_blk [(.iconst 0, 1, 0, 0)] 32 [some (.ref (52)), some (.ref (2)), some (.ref (r2)), some (.int (x3)), some (.int (w.1 52 3)), none] [.int (0), .int (v1), .int (5), .ref (52)] u2 [] (by decide +kernel) (by refine qt_iconst qc_0 ?_; exact qt_z rfl rfl rfl rfl rfl) trivial ?_
    refine s_callV (a := 0) (a' := 0) (As := [.int (5), .int (v1), .int (0)]) (id := 52) (st := []) kX9_add l_9_57 (by decide +kernel) (q_id_of rfl) rfl (Nat.le_of_ble_eq_true rfl) (s_mono h (s_V_of (fun u4 h => ?_)) (fun _ _ h9 => h9))
    show s_Ex (d + 1) 0 mX9_readAgain 35 [some (.ref (52)), some (.ref (2)), some (.ref (r2)), some (.int (x3)), some (.int (w.1 52 3)), none] [] u4 Q X
    refine s_blk [(.aload_n 1, 1, 0, 0), (.bipush 91, 2, 0, 0)] 38 [some (.ref (52)), some (.ref (2)), some (.ref (r2)), some (.int (x3)), some (.int (w.1 52 3)), none] [.int (91), .ref (2)] u4 [] (by decide +kernel) (by refine qt_aload_n (r := 2) rfl ?_; refine qt_bipush qb_91 ?_; exact qt_z rfl rfl rfl rfl rfl) trivial ?_
    refine s_callV (a := 0) (a' := 0) (As := [.int (91)]) (id := 2) (st := []) kX10_need l_9_35 (by decide +kernel) (q_id_of rfl) rfl (Nat.le_of_ble_eq_true rfl) (s_mono h (s_V_of (fun u6 h => ?_)) (fun _ _ h9 => h9))
    show s_Ex (d + 1) 0 mX9_readAgain 41 [some (.ref (52)), some (.ref (2)), some (.ref (r2)), some (.int (x3)), some (.int (w.1 52 3)), none] [] u6 Q X
    refine s_blk [(.iconst 0, 1, 0, 0), (.istore 5, 2, 0, 0)] 44 [some (.ref (52)), some (.ref (2)), some (.ref (r2)), some (.int (x3)), some (.int (w.1 52 3)), some (.int (0))] [] u6 [] (by decide +kernel) (by refine qt_iconst qc_0 ?_; refine qt_istore (L' := [some (.ref (52)), some (.ref (2)), some (.ref (r2)), some (.int (x3)), some (.int (w.1 52 3)), some (.int (0))]) rfl ?_; exact qt_z rfl rfl rfl rfl rfl) trivial ?_
    exact h
  · replace h := h.2 hc
    refine s_blk [(.aload_n 1, 1, 0, 0), (.iconst 3, 1, 0, 0), (.aload_n 1, 1, 0, 0)] 9 [some (.ref (52)), some (.ref (2)), some (.ref (r2)), some (.int (x3)), none, none] [.ref (2), .int (3), .ref (2)] w [] (by decide +kernel) (by refine qt_aload_n (r := 2) rfl ?_; refine qt_iconst qc_3 ?_; refine qt_aload_n (r := 2) rfl ?_; exact qt_z rfl rfl rfl rfl rfl) trivial ?_
    refine s_callV (a := 0) (a' := 0) (As := []) (id := 2) (st := [.int (3), .ref (2)]) kX10_startOfLast l_9_81 (by decide +kernel) (q_id_of rfl) rfl (Nat.le_of_ble_eq_true rfl) (s_mono h (s_I_of (fun v7 u8 h => ?_)) (fun _ _ h9 => h9))
    show s_Ex (d + 1) 0 mX9_readAgain 12 [some (.ref (52)), some (.ref (2)), some (.ref (r2)), some (.int (x3)), none, none] [.int (v7), .int (3), .ref (2)] u8 Q X
    refine s_callV (a := 0) (a' := 0) (As := [.int (3), .int (v7)]) (id := 2) (st := []) kX10_blame l_9_84 (by decide +kernel) (q_id_of rfl) rfl (Nat.le_of_ble_eq_true rfl) (s_mono h (s_V_of (fun u10 h => ?_)) (fun _ _ h9 => h9))
    show s_Ex (d + 1) 0 mX9_readAgain 15 [some (.ref (52)), some (.ref (2)), some (.ref (r2)), some (.int (x3)), none, none] [] u10 Q X
    exact s_retV (by decide +kernel) rfl h
theorem xX9_readAgain_44 {d : Nat} {r2 : Nat} {x3 : Int32} {x4 : Int32} {x5 : Int32} {w : q_Sm} {Q : s_Po} {X : s_Xo} (h : vX9_readAgain_44 d r2 x3 x4 x5 w Q X) : s_Ex (d + 1) 0 mX9_readAgain 44 [some (.ref (52)), some (.ref (2)), some (.ref (r2)), some (.int (x3)), some (.int (x4)), some (.int (x5))] [] w Q X := by
  unfold vX9_readAgain_44 at h
  refine s_blk [(.iload 5, 2, 0, 0), (.sipush 150, 3, 0, 0)] 49 [some (.ref (52)), some (.ref (2)), some (.ref (r2)), some (.int (x3)), some (.int (x4)), some (.int (x5))] [.int (150), .int (x5)] w [] (by decide +kernel) (by refine qt_iload (x := x5) rfl ?_; refine qt_sipush qs_150 ?_; exact qt_z rfl rfl rfl rfl rfl) trivial ?_
  refine s_icmp (cd := .ge) (off := 40) 89 (by decide +kernel) (by decide) (fun hc => ?_) (fun hc => ?_)
  · replace h := h.1 hc
    refine s_blk [(.iload 4, 2, 0, 0), (.sipush 150, 3, 0, 0)] 94 [some (.ref (52)), some (.ref (2)), some (.ref (r2)), some (.int (x3)), some (.int (x4)), some (.int (x5))] [.int (150), .int (x4)] w [] (by decide +kernel) (by refine qt_iload (x := x4) rfl ?_; refine qt_sipush qs_150 ?_; exact qt_z rfl rfl rfl rfl rfl) trivial ?_
    refine s_icmp (cd := .ge) (off := 14) 108 (by decide +kernel) (by decide) (fun hc => ?_) (fun hc => ?_)
    · replace h := h.1 hc
      exact s_retV (by decide +kernel) rfl h
    · replace h := h.2 hc
      obtain ⟨ho12, h⟩ := h
      replace h := h _ rfl
      refine s_blk [(.aload_n 0, 1, 0, 0), (.getfield 18, 3, 9, 2), (.iload 4, 2, 0, 0), (.aload_n 0, 1, 0, 0), (.getfield 21, 3, 9, 3), (.iastore, 1, 0, 0)] 108 [some (.ref (52)), some (.ref (2)), some (.ref (r2)), some (.int (x3)), some (.int (x4)), some (.int (x5))] [] (q_wI w 55 (Int32.toNatClampNeg x4) (w.1 52 3)) [q_id 116 9 52, q_id 116 9 52, q_id 116 14 55, vp_in x4 150] (by decide +kernel) (by refine qt_aload_n (r := 52) rfl ?_; refine qt_getR (r := 55) rfl rfl ?_; refine qt_iload (x := x4) rfl ?_; refine qt_aload_n (r := 52) rfl ?_; refine qt_getI rfl ?_; refine qt_iast ?_; exact qt_z rfl rfl rfl rfl rfl) ⟨(q_id_of rfl), (q_id_of rfl), (q_id_of rfl), ho12⟩ ?_
      exact s_retV (by decide +kernel) rfl h
  · replace h := h.2 hc
    refine s_blk [(.aload_n 1, 1, 0, 0)] 53 [some (.ref (52)), some (.ref (2)), some (.ref (r2)), some (.int (x3)), some (.int (x4)), some (.int (x5))] [.ref (2)] w [] (by decide +kernel) (by refine qt_aload_n (r := 2) rfl ?_; exact qt_z rfl rfl rfl rfl rfl) trivial ?_
    refine s_callV (a := 0) (a' := 0) (As := []) (id := 2) (st := []) kX10_failed l_9_88 (by decide +kernel) (q_id_of rfl) rfl (Nat.le_of_ble_eq_true rfl) (s_mono h (s_I_of (fun v13 u14 h => ?_)) (fun _ _ h9 => h9))
    show s_Ex (d + 1) 0 mX9_readAgain 56 [some (.ref (52)), some (.ref (2)), some (.ref (r2)), some (.int (x3)), some (.int (x4)), some (.int (x5))] [.int (v13)] u14 Q X
    refine s_if (cd := .ne) (off := 33) 89 (by decide +kernel) (by decide) (fun hc => ?_) (fun hc => ?_)
    · replace h := h.1 hc
      refine s_blk [(.iload 4, 2, 0, 0), (.sipush 150, 3, 0, 0)] 94 [some (.ref (52)), some (.ref (2)), some (.ref (r2)), some (.int (x3)), some (.int (x4)), some (.int (x5))] [.int (150), .int (x4)] u14 [] (by decide +kernel) (by refine qt_iload (x := x4) rfl ?_; refine qt_sipush qs_150 ?_; exact qt_z rfl rfl rfl rfl rfl) trivial ?_
      refine s_icmp (cd := .ge) (off := 14) 108 (by decide +kernel) (by decide) (fun hc => ?_) (fun hc => ?_)
      · replace h := h.1 hc
        exact s_retV (by decide +kernel) rfl h
      · replace h := h.2 hc
        obtain ⟨ho16, h⟩ := h
        replace h := h _ rfl
        refine s_blk [(.aload_n 0, 1, 0, 0), (.getfield 18, 3, 9, 2), (.iload 4, 2, 0, 0), (.aload_n 0, 1, 0, 0), (.getfield 21, 3, 9, 3), (.iastore, 1, 0, 0)] 108 [some (.ref (52)), some (.ref (2)), some (.ref (r2)), some (.int (x3)), some (.int (x4)), some (.int (x5))] [] (q_wI u14 55 (Int32.toNatClampNeg x4) (u14.1 52 3)) [q_id 116 9 52, q_id 116 9 52, q_id 116 14 55, vp_in x4 150] (by decide +kernel) (by refine qt_aload_n (r := 52) rfl ?_; refine qt_getR (r := 55) rfl rfl ?_; refine qt_iload (x := x4) rfl ?_; refine qt_aload_n (r := 52) rfl ?_; refine qt_getI rfl ?_; refine qt_iast ?_; exact qt_z rfl rfl rfl rfl rfl) ⟨(q_id_of rfl), (q_id_of rfl), (q_id_of rfl), ho16⟩ ?_
        exact s_retV (by decide +kernel) rfl h
    · replace h := h.2 hc
      refine s_blk [(.aload_n 1, 1, 0, 0), (.bipush 93, 2, 0, 0)] 62 [some (.ref (52)), some (.ref (2)), some (.ref (r2)), some (.int (x3)), some (.int (x4)), some (.int (x5))] [.int (93), .ref (2)] u14 [] (by decide +kernel) (by refine qt_aload_n (r := 2) rfl ?_; refine qt_bipush qb_93 ?_; exact qt_z rfl rfl rfl rfl rfl) trivial ?_
      refine s_callV (a := 0) (a' := 0) (As := [.int (93)]) (id := 2) (st := []) kX10_takes l_9_91 (by decide +kernel) (q_id_of rfl) rfl (Nat.le_of_ble_eq_true rfl) (s_mono h (s_I_of (fun v17 u18 h => ?_)) (fun _ _ h9 => h9))
      show s_Ex (d + 1) 0 mX9_readAgain 65 [some (.ref (52)), some (.ref (2)), some (.ref (r2)), some (.int (x3)), some (.int (x4)), some (.int (x5))] [.int (v17)] u18 Q X
      refine s_if (cd := .ne) (off := 24) 89 (by decide +kernel) (by decide) (fun hc => ?_) (fun hc => ?_)
      · replace h := h.1 hc
        refine s_blk [(.iload 4, 2, 0, 0), (.sipush 150, 3, 0, 0)] 94 [some (.ref (52)), some (.ref (2)), some (.ref (r2)), some (.int (x3)), some (.int (x4)), some (.int (x5))] [.int (150), .int (x4)] u18 [] (by decide +kernel) (by refine qt_iload (x := x4) rfl ?_; refine qt_sipush qs_150 ?_; exact qt_z rfl rfl rfl rfl rfl) trivial ?_
        refine s_icmp (cd := .ge) (off := 14) 108 (by decide +kernel) (by decide) (fun hc => ?_) (fun hc => ?_)
        · replace h := h.1 hc
          exact s_retV (by decide +kernel) rfl h
        · replace h := h.2 hc
          obtain ⟨ho20, h⟩ := h
          replace h := h _ rfl
          refine s_blk [(.aload_n 0, 1, 0, 0), (.getfield 18, 3, 9, 2), (.iload 4, 2, 0, 0), (.aload_n 0, 1, 0, 0), (.getfield 21, 3, 9, 3), (.iastore, 1, 0, 0)] 108 [some (.ref (52)), some (.ref (2)), some (.ref (r2)), some (.int (x3)), some (.int (x4)), some (.int (x5))] [] (q_wI u18 55 (Int32.toNatClampNeg x4) (u18.1 52 3)) [q_id 116 9 52, q_id 116 9 52, q_id 116 14 55, vp_in x4 150] (by decide +kernel) (by refine qt_aload_n (r := 52) rfl ?_; refine qt_getR (r := 55) rfl rfl ?_; refine qt_iload (x := x4) rfl ?_; refine qt_aload_n (r := 52) rfl ?_; refine qt_getI rfl ?_; refine qt_iast ?_; exact qt_z rfl rfl rfl rfl rfl) ⟨(q_id_of rfl), (q_id_of rfl), (q_id_of rfl), ho20⟩ ?_
          exact s_retV (by decide +kernel) rfl h
      · replace h := h.2 hc
        refine s_blk [(.aload_n 0, 1, 0, 0), (.aload_n 1, 1, 0, 0), (.aload_n 2, 1, 0, 0), (.iload_n 3, 1, 0, 0), (.iconst 1, 1, 0, 0), (.iadd, 1, 0, 0)] 74 [some (.ref (52)), some (.ref (2)), some (.ref (r2)), some (.int (x3)), some (.int (x4)), some (.int (x5))] [.int (x3 + 1), .ref (r2), .ref (2), .ref (52)] u18 [] (by decide +kernel) (by refine qt_aload_n (r := 52) rfl ?_; refine qt_aload_n (r := 2) rfl ?_; refine qt_aload_n (r := r2) rfl ?_; refine qt_iload_n (x := x3) rfl ?_; refine qt_iconst qc_1 ?_; refine qt_iadd ?_; exact qt_z rfl rfl rfl rfl rfl) trivial ?_
        refine s_callV (a := 0) (a' := 0) (As := [.ref (2), .ref (r2), .int (x3 + 1)]) (id := 52) (st := []) kX9_readStep l_9_31 (by decide +kernel) (q_id_of rfl) rfl (Nat.le_of_ble_eq_true rfl) (s_mono h (s_V_of (fun u22 h => ?_)) (fun _ _ h9 => h9))
        show s_Ex (d + 1) 0 mX9_readAgain 77 [some (.ref (52)), some (.ref (2)), some (.ref (r2)), some (.int (x3)), some (.int (x4)), some (.int (x5))] [] u22 Q X
        refine s_blk [(.aload_n 1, 1, 0, 0), (.bipush 59, 2, 0, 0)] 80 [some (.ref (52)), some (.ref (2)), some (.ref (r2)), some (.int (x3)), some (.int (x4)), some (.int (x5))] [.int (59), .ref (2)] u22 [] (by decide +kernel) (by refine qt_aload_n (r := 2) rfl ?_; refine qt_bipush qb_59 ?_; exact qt_z rfl rfl rfl rfl rfl) trivial ?_
        refine s_callV (a := 0) (a' := 0) (As := [.int (59)]) (id := 2) (st := []) kX10_need l_9_35 (by decide +kernel) (q_id_of rfl) rfl (Nat.le_of_ble_eq_true rfl) (s_mono h (s_V_of (fun u24 h => ?_)) (fun _ _ h9 => h9))
        show s_Ex (d + 1) 0 mX9_readAgain 83 [some (.ref (52)), some (.ref (2)), some (.ref (r2)), some (.int (x3)), some (.int (x4)), some (.int (x5))] [] u24 Q X
        refine s_blk [(.iinc 5 1, 3, 0, 0), (.goto (-42), 3, 44, 0)] 44 [some (.ref (52)), some (.ref (2)), some (.ref (r2)), some (.int (x3)), some (.int (x4)), some (.int (x5 + 1))] [] u24 [] (by decide +kernel) (by refine qt_iinc (x := x5) (L' := [some (.ref (52)), some (.ref (2)), some (.ref (r2)), some (.int (x3)), some (.int (x4)), some (.int (x5 + 1))]) rfl qc_1 rfl ?_; refine qt_goto ?_; exact qt_z rfl rfl rfl rfl rfl) trivial ?_
        exact h
theorem eX9_readAgain {d : Nat} {r2 : Nat} {x3 : Int32} {w : q_Sm} {Q : s_Po} {X : s_Xo} (h : vX9_readAgain_0 d r2 x3 w Q X) : s_Ev (d + 1) 0 mX9_readAgain w [.ref (52), .ref (2), .ref (r2), .int (x3)] Q X := s_of (by decide) rfl (Nat.le_of_ble_eq_true rfl) (xX9_readAgain_0 h)
def vX9_add_0 (d : Nat) (x1 : Int32) (x2 : Int32) (x3 : Int32) (w : q_Sm) (Q : s_Po) (X : s_Xo) : Prop := ((150 ≤ (w.1 52 3)) → Q none w) ∧ (¬ (150 ≤ (w.1 52 3)) → (vp_in (w.1 52 3) 150) ∧ ∀ w_1 : q_Sm, w_1 = q_wI w 53 (Int32.toNatClampNeg (w.1 52 3)) x1 → (vp_in (w_1.1 52 3) 150) ∧ ∀ w_2 : q_Sm, w_2 = q_wI w_1 54 (Int32.toNatClampNeg (w_1.1 52 3)) x2 → (vp_in (w_2.1 52 3) 150) ∧ ∀ w_3 : q_Sm, w_3 = q_wI w_2 55 (Int32.toNatClampNeg (w_2.1 52 3)) x3 → ∀ w_4 : q_Sm, w_4 = q_wI w_3 52 3 ((w_3.1 52 3) + 1) → Q none w_4)
theorem xX9_add_0 {d : Nat} {x1 : Int32} {x2 : Int32} {x3 : Int32} {w : q_Sm} {Q : s_Po} {X : s_Xo} (h : vX9_add_0 d x1 x2 x3 w Q X) : s_Ex (d + 1) 0 mX9_add 0 [some (.ref (52)), some (.int (x1)), some (.int (x2)), some (.int (x3))] [] w Q X := by
  unfold vX9_add_0 at h
  refine s_blk [(.aload_n 0, 1, 0, 0), (.getfield 21, 3, 9, 3), (.sipush 150, 3, 0, 0)] 7 [some (.ref (52)), some (.int (x1)), some (.int (x2)), some (.int (x3))] [.int (150), .int (w.1 52 3)] w [q_id 116 9 52] (by decide +kernel) (by refine qt_aload_n (r := 52) rfl ?_; refine qt_getI rfl ?_; refine qt_sipush qs_150 ?_; exact qt_z rfl rfl rfl rfl rfl) (q_id_of rfl) ?_
  refine s_icmp (cd := .ge) (off := 43) 50 (by decide +kernel) (by decide) (fun hc => ?_) (fun hc => ?_)
  · replace h := h.1 hc
    exact s_retV (by decide +kernel) rfl h
  · replace h := h.2 hc
    obtain ⟨ho5, h⟩ := h
    replace h := h _ rfl
    obtain ⟨ho6, h⟩ := h
    replace h := h _ rfl
    obtain ⟨ho7, h⟩ := h
    replace h := h _ rfl
    replace h := h _ rfl
    refine s_blk [(.aload_n 0, 1, 0, 0), (.getfield 9, 3, 9, 0), (.aload_n 0, 1, 0, 0), (.getfield 21, 3, 9, 3), (.iload_n 1, 1, 0, 0), (.iastore, 1, 0, 0), (.aload_n 0, 1, 0, 0), (.getfield 15, 3, 9, 1), (.aload_n 0, 1, 0, 0), (.getfield 21, 3, 9, 3), (.iload_n 2, 1, 0, 0), (.iastore, 1, 0, 0), (.aload_n 0, 1, 0, 0), (.getfield 18, 3, 9, 2), (.aload_n 0, 1, 0, 0), (.getfield 21, 3, 9, 3), (.iload_n 3, 1, 0, 0), (.iastore, 1, 0, 0), (.aload_n 0, 1, 0, 0), (.dup, 1, 0, 0), (.getfield 21, 3, 9, 3), (.iconst 1, 1, 0, 0), (.iadd, 1, 0, 0), (.putfield 21, 3, 9, 3)] 50 [some (.ref (52)), some (.int (x1)), some (.int (x2)), some (.int (x3))] [] (q_wI (q_wI (q_wI (q_wI w 53 (Int32.toNatClampNeg (w.1 52 3)) x1) 54 (Int32.toNatClampNeg ((q_wI w 53 (Int32.toNatClampNeg (w.1 52 3)) x1).1 52 3)) x2) 55 (Int32.toNatClampNeg ((q_wI (q_wI w 53 (Int32.toNatClampNeg (w.1 52 3)) x1) 54 (Int32.toNatClampNeg ((q_wI w 53 (Int32.toNatClampNeg (w.1 52 3)) x1).1 52 3)) x2).1 52 3)) x3) 52 3 (((q_wI (q_wI (q_wI w 53 (Int32.toNatClampNeg (w.1 52 3)) x1) 54 (Int32.toNatClampNeg ((q_wI w 53 (Int32.toNatClampNeg (w.1 52 3)) x1).1 52 3)) x2) 55 (Int32.toNatClampNeg ((q_wI (q_wI w 53 (Int32.toNatClampNeg (w.1 52 3)) x1) 54 (Int32.toNatClampNeg ((q_wI w 53 (Int32.toNatClampNeg (w.1 52 3)) x1).1 52 3)) x2).1 52 3)) x3).1 52 3) + 1)) [q_id 116 9 52, q_id 116 9 52, q_id 116 14 53, vp_in (w.1 52 3) 150, q_id 116 9 52, q_id 116 9 52, q_id 116 14 54, vp_in ((q_wI w 53 (Int32.toNatClampNeg (w.1 52 3)) x1).1 52 3) 150, q_id 116 9 52, q_id 116 9 52, q_id 116 14 55, vp_in ((q_wI (q_wI w 53 (Int32.toNatClampNeg (w.1 52 3)) x1) 54 (Int32.toNatClampNeg ((q_wI w 53 (Int32.toNatClampNeg (w.1 52 3)) x1).1 52 3)) x2).1 52 3) 150, q_id 116 9 52, q_id 116 9 52] (by decide +kernel) (by refine qt_aload_n (r := 52) rfl ?_; refine qt_getR (r := 53) rfl rfl ?_; refine qt_aload_n (r := 52) rfl ?_; refine qt_getI rfl ?_; refine qt_iload_n (x := x1) rfl ?_; refine qt_iast ?_; refine qt_aload_n (r := 52) rfl ?_; refine qt_getR (r := 54) rfl rfl ?_; refine qt_aload_n (r := 52) rfl ?_; refine qt_getI rfl ?_; refine qt_iload_n (x := x2) rfl ?_; refine qt_iast ?_; refine qt_aload_n (r := 52) rfl ?_; refine qt_getR (r := 55) rfl rfl ?_; refine qt_aload_n (r := 52) rfl ?_; refine qt_getI rfl ?_; refine qt_iload_n (x := x3) rfl ?_; refine qt_iast ?_; refine qt_aload_n (r := 52) rfl ?_; refine qt_dupR ?_; refine qt_getI rfl ?_; refine qt_iconst qc_1 ?_; refine qt_iadd ?_; refine qt_putI rfl ?_; exact qt_z rfl rfl rfl rfl rfl) ⟨(q_id_of rfl), (q_id_of rfl), (q_id_of rfl), ho5, (q_id_of rfl), (q_id_of rfl), (q_id_of rfl), ho6, (q_id_of rfl), (q_id_of rfl), (q_id_of rfl), ho7, (q_id_of rfl), (q_id_of rfl)⟩ ?_
    exact s_retV (by decide +kernel) rfl h
theorem eX9_add {d : Nat} {x1 : Int32} {x2 : Int32} {x3 : Int32} {w : q_Sm} {Q : s_Po} {X : s_Xo} (h : vX9_add_0 d x1 x2 x3 w Q X) : s_Ev (d + 1) 0 mX9_add w [.ref (52), .int (x1), .int (x2), .int (x3)] Q X := s_of (by decide) rfl (Nat.le_of_ble_eq_true rfl) (xX9_add_0 h)
def vX9_run_0 (d : Nat) (r1 : Nat) (r2 : Nat) (r3 : Nat) (w : q_Sm) (Q : s_Po) (X : s_Xo) : Prop := ∀ w_1 : q_Sm, w_1 = q_wI w 52 4 0 → ∀ w_2 : q_Sm, w_2 = q_wI w_1 52 5 0 → ∀ w_3 : q_Sm, w_3 = q_wI w_2 52 6 0 → s_EvV d 0 mX9_runSteps w_3 [.ref (52), .int (0), .int (w_3.1 52 3), .ref (r1), .ref (r2), .ref (r3)] (fun u5 => Q none u5) X
theorem xX9_run_0 {d : Nat} {r1 : Nat} {r2 : Nat} {r3 : Nat} {w : q_Sm} {Q : s_Po} {X : s_Xo} (h : vX9_run_0 d r1 r2 r3 w Q X) : s_Ex (d + 1) 0 mX9_run 0 [some (.ref (52)), some (.ref (r1)), some (.ref (r2)), some (.ref (r3))] [] w Q X := by
  unfold vX9_run_0 at h
  replace h := h _ rfl
  replace h := h _ rfl
  replace h := h _ rfl
  refine s_blk [(.aload_n 0, 1, 0, 0), (.iconst 0, 1, 0, 0), (.putfield 95, 3, 9, 4), (.aload_n 0, 1, 0, 0), (.iconst 0, 1, 0, 0), (.putfield 98, 3, 9, 5), (.aload_n 0, 1, 0, 0), (.iconst 0, 1, 0, 0), (.putfield 101, 3, 9, 6), (.aload_n 0, 1, 0, 0), (.iconst 0, 1, 0, 0), (.aload_n 0, 1, 0, 0), (.getfield 21, 3, 9, 3), (.aload_n 1, 1, 0, 0), (.aload_n 2, 1, 0, 0), (.aload_n 3, 1, 0, 0)] 24 [some (.ref (52)), some (.ref (r1)), some (.ref (r2)), some (.ref (r3))] [.ref (r3), .ref (r2), .ref (r1), .int ((q_wI (q_wI (q_wI w 52 4 0) 52 5 0) 52 6 0).1 52 3), .int (0), .ref (52)] (q_wI (q_wI (q_wI w 52 4 0) 52 5 0) 52 6 0) [q_id 116 9 52, q_id 116 9 52, q_id 116 9 52, q_id 116 9 52] (by decide +kernel) (by refine qt_aload_n (r := 52) rfl ?_; refine qt_iconst qc_0 ?_; refine qt_putI rfl ?_; refine qt_aload_n (r := 52) rfl ?_; refine qt_iconst qc_0 ?_; refine qt_putI rfl ?_; refine qt_aload_n (r := 52) rfl ?_; refine qt_iconst qc_0 ?_; refine qt_putI rfl ?_; refine qt_aload_n (r := 52) rfl ?_; refine qt_iconst qc_0 ?_; refine qt_aload_n (r := 52) rfl ?_; refine qt_getI rfl ?_; refine qt_aload_n (r := r1) rfl ?_; refine qt_aload_n (r := r2) rfl ?_; refine qt_aload_n (r := r3) rfl ?_; exact qt_z rfl rfl rfl rfl rfl) ⟨(q_id_of rfl), (q_id_of rfl), (q_id_of rfl), (q_id_of rfl)⟩ ?_
  refine s_callV (a := 0) (a' := 0) (As := [.int (0), .int ((q_wI (q_wI (q_wI w 52 4 0) 52 5 0) 52 6 0).1 52 3), .ref (r1), .ref (r2), .ref (r3)]) (id := 52) (st := []) kX9_runSteps l_9_104 (by decide +kernel) (q_id_of rfl) rfl (Nat.le_of_ble_eq_true rfl) (s_mono h (s_V_of (fun u5 h => ?_)) (fun _ _ h9 => h9))
  show s_Ex (d + 1) 0 mX9_run 27 [some (.ref (52)), some (.ref (r1)), some (.ref (r2)), some (.ref (r3))] [] u5 Q X
  exact s_retV (by decide +kernel) rfl h
theorem eX9_run {d : Nat} {r1 : Nat} {r2 : Nat} {r3 : Nat} {w : q_Sm} {Q : s_Po} {X : s_Xo} (h : vX9_run_0 d r1 r2 r3 w Q X) : s_Ev (d + 1) 0 mX9_run w [.ref (52), .ref (r1), .ref (r2), .ref (r3)] Q X := s_of (by decide) rfl (Nat.le_of_ble_eq_true rfl) (xX9_run_0 h)
def vX6_today_0 (d : Nat) (o0 : Nat) (w : q_Sm) (Q : s_Po) (X : s_Xo) : Prop := (q_id 116 6 o0) ∧ (q_id 116 14 (o0 + 1)) ∧ (vp_in 58 (q_sh (o0 + 1)).2) ∧ Q (some (.int (w.1 (o0 + 1) (Int32.toNatClampNeg 58)))) w
theorem xX6_today_0 {d : Nat} {o0 : Nat} {w : q_Sm} {Q : s_Po} {X : s_Xo} (h : vX6_today_0 d o0 w Q X) : s_Ex (d + 1) 0 mX6_today 0 [some (.ref (o0))] [] w Q X := by
  unfold vX6_today_0 at h
  obtain ⟨ho1, h⟩ := h
  obtain ⟨ho2, h⟩ := h
  obtain ⟨ho3, h⟩ := h
  refine s_blk [(.aload_n 0, 1, 0, 0), (.getfield 11, 3, 6, 0), (.bipush 58, 2, 0, 0), (.iaload, 1, 0, 0)] 7 [some (.ref (o0))] [.int (w.1 (o0 + 1) (Int32.toNatClampNeg 58))] w [q_id 116 6 o0, q_id 116 14 (o0 + 1), vp_in 58 (q_sh (o0 + 1)).2] (by decide +kernel) (by refine qt_aload_n (r := o0) rfl ?_; refine qt_getR (r := o0 + 1) rfl rfl ?_; refine qt_bipush qb_58 ?_; refine qt_iald ?_; exact qt_z rfl rfl rfl rfl rfl) ⟨ho1, ho2, ho3⟩ ?_
  exact s_retI .int (by decide +kernel) rfl rfl h
theorem eX6_today {d : Nat} {o0 : Nat} {w : q_Sm} {Q : s_Po} {X : s_Xo} (h : vX6_today_0 d o0 w Q X) : s_Ev (d + 1) 0 mX6_today w [.ref (o0)] Q X := s_of (by decide) rfl (Nat.le_of_ble_eq_true rfl) (xX6_today_0 h)
def vX6_owed_0 (d : Nat) (o0 : Nat) (x1 : Int32) (w : q_Sm) (Q : s_Po) (X : s_Xo) : Prop := (q_id 116 6 o0) ∧ (q_id 116 14 (o0 + 1)) ∧ (vp_in (0 + x1) (q_sh (o0 + 1)).2) ∧ Q (some (.int (w.1 (o0 + 1) (Int32.toNatClampNeg (0 + x1))))) w
theorem xX6_owed_0 {d : Nat} {o0 : Nat} {x1 : Int32} {w : q_Sm} {Q : s_Po} {X : s_Xo} (h : vX6_owed_0 d o0 x1 w Q X) : s_Ex (d + 1) 0 mX6_owed 0 [some (.ref (o0)), some (.int (x1))] [] w Q X := by
  unfold vX6_owed_0 at h
  obtain ⟨ho1, h⟩ := h
  obtain ⟨ho2, h⟩ := h
  obtain ⟨ho3, h⟩ := h
  refine s_blk [(.aload_n 0, 1, 0, 0), (.getfield 11, 3, 6, 0), (.iconst 0, 1, 0, 0), (.iload_n 1, 1, 0, 0), (.iadd, 1, 0, 0), (.iaload, 1, 0, 0)] 8 [some (.ref (o0)), some (.int (x1))] [.int (w.1 (o0 + 1) (Int32.toNatClampNeg (0 + x1)))] w [q_id 116 6 o0, q_id 116 14 (o0 + 1), vp_in (0 + x1) (q_sh (o0 + 1)).2] (by decide +kernel) (by refine qt_aload_n (r := o0) rfl ?_; refine qt_getR (r := o0 + 1) rfl rfl ?_; refine qt_iconst qc_0 ?_; refine qt_iload_n (x := x1) rfl ?_; refine qt_iadd ?_; refine qt_iald ?_; exact qt_z rfl rfl rfl rfl rfl) ⟨ho1, ho2, ho3⟩ ?_
  exact s_retI .int (by decide +kernel) rfl rfl h
theorem eX6_owed {d : Nat} {o0 : Nat} {x1 : Int32} {w : q_Sm} {Q : s_Po} {X : s_Xo} (h : vX6_owed_0 d o0 x1 w Q X) : s_Ev (d + 1) 0 mX6_owed w [.ref (o0), .int (x1)] Q X := s_of (by decide) rfl (Nat.le_of_ble_eq_true rfl) (xX6_owed_0 h)
def vX6_holder_0 (d : Nat) (o0 : Nat) (x1 : Int32) (w : q_Sm) (Q : s_Po) (X : s_Xo) : Prop := (q_id 116 6 o0) ∧ (q_id 116 14 (o0 + 1)) ∧ (vp_in (10 + x1) (q_sh (o0 + 1)).2) ∧ Q (some (.int (w.1 (o0 + 1) (Int32.toNatClampNeg (10 + x1))))) w
theorem xX6_holder_0 {d : Nat} {o0 : Nat} {x1 : Int32} {w : q_Sm} {Q : s_Po} {X : s_Xo} (h : vX6_holder_0 d o0 x1 w Q X) : s_Ex (d + 1) 0 mX6_holder 0 [some (.ref (o0)), some (.int (x1))] [] w Q X := by
  unfold vX6_holder_0 at h
  obtain ⟨ho1, h⟩ := h
  obtain ⟨ho2, h⟩ := h
  obtain ⟨ho3, h⟩ := h
  refine s_blk [(.aload_n 0, 1, 0, 0), (.getfield 11, 3, 6, 0), (.bipush 10, 2, 0, 0), (.iload_n 1, 1, 0, 0), (.iadd, 1, 0, 0), (.iaload, 1, 0, 0)] 9 [some (.ref (o0)), some (.int (x1))] [.int (w.1 (o0 + 1) (Int32.toNatClampNeg (10 + x1)))] w [q_id 116 6 o0, q_id 116 14 (o0 + 1), vp_in (10 + x1) (q_sh (o0 + 1)).2] (by decide +kernel) (by refine qt_aload_n (r := o0) rfl ?_; refine qt_getR (r := o0 + 1) rfl rfl ?_; refine qt_bipush qb_10 ?_; refine qt_iload_n (x := x1) rfl ?_; refine qt_iadd ?_; refine qt_iald ?_; exact qt_z rfl rfl rfl rfl rfl) ⟨ho1, ho2, ho3⟩ ?_
  exact s_retI .int (by decide +kernel) rfl rfl h
theorem eX6_holder {d : Nat} {o0 : Nat} {x1 : Int32} {w : q_Sm} {Q : s_Po} {X : s_Xo} (h : vX6_holder_0 d o0 x1 w Q X) : s_Ev (d + 1) 0 mX6_holder w [.ref (o0), .int (x1)] Q X := s_of (by decide) rfl (Nat.le_of_ble_eq_true rfl) (xX6_holder_0 h)
def vX6_paid_0 (d : Nat) (o0 : Nat) (x1 : Int32) (w : q_Sm) (Q : s_Po) (X : s_Xo) : Prop := (q_id 116 6 o0) ∧ (q_id 116 14 (o0 + 1)) ∧ (vp_in (20 + x1) (q_sh (o0 + 1)).2) ∧ Q (some (.int (w.1 (o0 + 1) (Int32.toNatClampNeg (20 + x1))))) w
theorem xX6_paid_0 {d : Nat} {o0 : Nat} {x1 : Int32} {w : q_Sm} {Q : s_Po} {X : s_Xo} (h : vX6_paid_0 d o0 x1 w Q X) : s_Ex (d + 1) 0 mX6_paid 0 [some (.ref (o0)), some (.int (x1))] [] w Q X := by
  unfold vX6_paid_0 at h
  obtain ⟨ho1, h⟩ := h
  obtain ⟨ho2, h⟩ := h
  obtain ⟨ho3, h⟩ := h
  refine s_blk [(.aload_n 0, 1, 0, 0), (.getfield 11, 3, 6, 0), (.bipush 20, 2, 0, 0), (.iload_n 1, 1, 0, 0), (.iadd, 1, 0, 0), (.iaload, 1, 0, 0)] 9 [some (.ref (o0)), some (.int (x1))] [.int (w.1 (o0 + 1) (Int32.toNatClampNeg (20 + x1)))] w [q_id 116 6 o0, q_id 116 14 (o0 + 1), vp_in (20 + x1) (q_sh (o0 + 1)).2] (by decide +kernel) (by refine qt_aload_n (r := o0) rfl ?_; refine qt_getR (r := o0 + 1) rfl rfl ?_; refine qt_bipush qb_20 ?_; refine qt_iload_n (x := x1) rfl ?_; refine qt_iadd ?_; refine qt_iald ?_; exact qt_z rfl rfl rfl rfl rfl) ⟨ho1, ho2, ho3⟩ ?_
  exact s_retI .int (by decide +kernel) rfl rfl h
theorem eX6_paid {d : Nat} {o0 : Nat} {x1 : Int32} {w : q_Sm} {Q : s_Po} {X : s_Xo} (h : vX6_paid_0 d o0 x1 w Q X) : s_Ev (d + 1) 0 mX6_paid w [.ref (o0), .int (x1)] Q X := s_of (by decide) rfl (Nat.le_of_ble_eq_true rfl) (xX6_paid_0 h)
def vX6_paidToday_0 (d : Nat) (o0 : Nat) (x1 : Int32) (w : q_Sm) (Q : s_Po) (X : s_Xo) : Prop := (q_id 116 6 o0) ∧ (q_id 116 14 (o0 + 1)) ∧ (vp_in (30 + x1) (q_sh (o0 + 1)).2) ∧ Q (some (.int (w.1 (o0 + 1) (Int32.toNatClampNeg (30 + x1))))) w
theorem xX6_paidToday_0 {d : Nat} {o0 : Nat} {x1 : Int32} {w : q_Sm} {Q : s_Po} {X : s_Xo} (h : vX6_paidToday_0 d o0 x1 w Q X) : s_Ex (d + 1) 0 mX6_paidToday 0 [some (.ref (o0)), some (.int (x1))] [] w Q X := by
  unfold vX6_paidToday_0 at h
  obtain ⟨ho1, h⟩ := h
  obtain ⟨ho2, h⟩ := h
  obtain ⟨ho3, h⟩ := h
  refine s_blk [(.aload_n 0, 1, 0, 0), (.getfield 11, 3, 6, 0), (.bipush 30, 2, 0, 0), (.iload_n 1, 1, 0, 0), (.iadd, 1, 0, 0), (.iaload, 1, 0, 0)] 9 [some (.ref (o0)), some (.int (x1))] [.int (w.1 (o0 + 1) (Int32.toNatClampNeg (30 + x1)))] w [q_id 116 6 o0, q_id 116 14 (o0 + 1), vp_in (30 + x1) (q_sh (o0 + 1)).2] (by decide +kernel) (by refine qt_aload_n (r := o0) rfl ?_; refine qt_getR (r := o0 + 1) rfl rfl ?_; refine qt_bipush qb_30 ?_; refine qt_iload_n (x := x1) rfl ?_; refine qt_iadd ?_; refine qt_iald ?_; exact qt_z rfl rfl rfl rfl rfl) ⟨ho1, ho2, ho3⟩ ?_
  exact s_retI .int (by decide +kernel) rfl rfl h
theorem eX6_paidToday {d : Nat} {o0 : Nat} {x1 : Int32} {w : q_Sm} {Q : s_Po} {X : s_Xo} (h : vX6_paidToday_0 d o0 x1 w Q X) : s_Ev (d + 1) 0 mX6_paidToday w [.ref (o0), .int (x1)] Q X := s_of (by decide) rfl (Nat.le_of_ble_eq_true rfl) (xX6_paidToday_0 h)
def vX6_defaulted_0 (d : Nat) (o0 : Nat) (x1 : Int32) (w : q_Sm) (Q : s_Po) (X : s_Xo) : Prop := (q_id 116 6 o0) ∧ (q_id 116 14 (o0 + 1)) ∧ (vp_in (40 + x1) (q_sh (o0 + 1)).2) ∧ Q (some (.int (w.1 (o0 + 1) (Int32.toNatClampNeg (40 + x1))))) w
theorem xX6_defaulted_0 {d : Nat} {o0 : Nat} {x1 : Int32} {w : q_Sm} {Q : s_Po} {X : s_Xo} (h : vX6_defaulted_0 d o0 x1 w Q X) : s_Ex (d + 1) 0 mX6_defaulted 0 [some (.ref (o0)), some (.int (x1))] [] w Q X := by
  unfold vX6_defaulted_0 at h
  obtain ⟨ho1, h⟩ := h
  obtain ⟨ho2, h⟩ := h
  obtain ⟨ho3, h⟩ := h
  refine s_blk [(.aload_n 0, 1, 0, 0), (.getfield 11, 3, 6, 0), (.bipush 40, 2, 0, 0), (.iload_n 1, 1, 0, 0), (.iadd, 1, 0, 0), (.iaload, 1, 0, 0)] 9 [some (.ref (o0)), some (.int (x1))] [.int (w.1 (o0 + 1) (Int32.toNatClampNeg (40 + x1)))] w [q_id 116 6 o0, q_id 116 14 (o0 + 1), vp_in (40 + x1) (q_sh (o0 + 1)).2] (by decide +kernel) (by refine qt_aload_n (r := o0) rfl ?_; refine qt_getR (r := o0 + 1) rfl rfl ?_; refine qt_bipush qb_40 ?_; refine qt_iload_n (x := x1) rfl ?_; refine qt_iadd ?_; refine qt_iald ?_; exact qt_z rfl rfl rfl rfl rfl) ⟨ho1, ho2, ho3⟩ ?_
  exact s_retI .int (by decide +kernel) rfl rfl h
theorem eX6_defaulted {d : Nat} {o0 : Nat} {x1 : Int32} {w : q_Sm} {Q : s_Po} {X : s_Xo} (h : vX6_defaulted_0 d o0 x1 w Q X) : s_Ev (d + 1) 0 mX6_defaulted w [.ref (o0), .int (x1)] Q X := s_of (by decide) rfl (Nat.le_of_ble_eq_true rfl) (xX6_defaulted_0 h)
def vX6_unspent_0 (d : Nat) (o0 : Nat) (x1 : Int32) (w : q_Sm) (Q : s_Po) (X : s_Xo) : Prop := (q_id 116 6 o0) ∧ (q_id 116 14 (o0 + 1)) ∧ (vp_in (50 + x1) (q_sh (o0 + 1)).2) ∧ Q (some (.int (w.1 (o0 + 1) (Int32.toNatClampNeg (50 + x1))))) w
theorem xX6_unspent_0 {d : Nat} {o0 : Nat} {x1 : Int32} {w : q_Sm} {Q : s_Po} {X : s_Xo} (h : vX6_unspent_0 d o0 x1 w Q X) : s_Ex (d + 1) 0 mX6_unspent 0 [some (.ref (o0)), some (.int (x1))] [] w Q X := by
  unfold vX6_unspent_0 at h
  obtain ⟨ho1, h⟩ := h
  obtain ⟨ho2, h⟩ := h
  obtain ⟨ho3, h⟩ := h
  refine s_blk [(.aload_n 0, 1, 0, 0), (.getfield 11, 3, 6, 0), (.bipush 50, 2, 0, 0), (.iload_n 1, 1, 0, 0), (.iadd, 1, 0, 0), (.iaload, 1, 0, 0)] 9 [some (.ref (o0)), some (.int (x1))] [.int (w.1 (o0 + 1) (Int32.toNatClampNeg (50 + x1)))] w [q_id 116 6 o0, q_id 116 14 (o0 + 1), vp_in (50 + x1) (q_sh (o0 + 1)).2] (by decide +kernel) (by refine qt_aload_n (r := o0) rfl ?_; refine qt_getR (r := o0 + 1) rfl rfl ?_; refine qt_bipush qb_50 ?_; refine qt_iload_n (x := x1) rfl ?_; refine qt_iadd ?_; refine qt_iald ?_; exact qt_z rfl rfl rfl rfl rfl) ⟨ho1, ho2, ho3⟩ ?_
  exact s_retI .int (by decide +kernel) rfl rfl h
theorem eX6_unspent {d : Nat} {o0 : Nat} {x1 : Int32} {w : q_Sm} {Q : s_Po} {X : s_Xo} (h : vX6_unspent_0 d o0 x1 w Q X) : s_Ev (d + 1) 0 mX6_unspent w [.ref (o0), .int (x1)] Q X := s_of (by decide) rfl (Nat.le_of_ble_eq_true rfl) (xX6_unspent_0 h)
def vX6_lent_0 (d : Nat) (o0 : Nat) (x1 : Int32) (w : q_Sm) (Q : s_Po) (X : s_Xo) : Prop := (q_id 116 6 o0) ∧ (q_id 116 14 (o0 + 1)) ∧ (vp_in (54 + x1) (q_sh (o0 + 1)).2) ∧ Q (some (.int (w.1 (o0 + 1) (Int32.toNatClampNeg (54 + x1))))) w
theorem xX6_lent_0 {d : Nat} {o0 : Nat} {x1 : Int32} {w : q_Sm} {Q : s_Po} {X : s_Xo} (h : vX6_lent_0 d o0 x1 w Q X) : s_Ex (d + 1) 0 mX6_lent 0 [some (.ref (o0)), some (.int (x1))] [] w Q X := by
  unfold vX6_lent_0 at h
  obtain ⟨ho1, h⟩ := h
  obtain ⟨ho2, h⟩ := h
  obtain ⟨ho3, h⟩ := h
  refine s_blk [(.aload_n 0, 1, 0, 0), (.getfield 11, 3, 6, 0), (.bipush 54, 2, 0, 0), (.iload_n 1, 1, 0, 0), (.iadd, 1, 0, 0), (.iaload, 1, 0, 0)] 9 [some (.ref (o0)), some (.int (x1))] [.int (w.1 (o0 + 1) (Int32.toNatClampNeg (54 + x1)))] w [q_id 116 6 o0, q_id 116 14 (o0 + 1), vp_in (54 + x1) (q_sh (o0 + 1)).2] (by decide +kernel) (by refine qt_aload_n (r := o0) rfl ?_; refine qt_getR (r := o0 + 1) rfl rfl ?_; refine qt_bipush qb_54 ?_; refine qt_iload_n (x := x1) rfl ?_; refine qt_iadd ?_; refine qt_iald ?_; exact qt_z rfl rfl rfl rfl rfl) ⟨ho1, ho2, ho3⟩ ?_
  exact s_retI .int (by decide +kernel) rfl rfl h
theorem eX6_lent {d : Nat} {o0 : Nat} {x1 : Int32} {w : q_Sm} {Q : s_Po} {X : s_Xo} (h : vX6_lent_0 d o0 x1 w Q X) : s_Ev (d + 1) 0 mX6_lent w [.ref (o0), .int (x1)] Q X := s_of (by decide) rfl (Nat.le_of_ble_eq_true rfl) (xX6_lent_0 h)
def vX6_pay_0 (d : Nat) (o0 : Nat) (r1 : Nat) (x2 : Int32) (x3 : Int32) (w : q_Sm) (Q : s_Po) (X : s_Xo) : Prop := (q_id 116 2 r1) ∧ (q_id 116 14 (r1 + 4)) ∧ (vp_in x2 (q_sh (r1 + 4)).2) ∧ ((x3 ≤ 0) → Q (some (.int (0))) w) ∧ (¬ (x3 ≤ 0) → q_id 116 6 o0 ∧ s_EvI d 0 mX6_owed w [.ref (o0), .int (x2)] (fun v1 u2 => ((v1 < x3) → Q (some (.int (0))) u2) ∧ (¬ (v1 < x3) → q_id 116 6 o0 ∧ s_EvI d 0 mX6_unspent u2 [.ref (o0), .int (w.1 (r1 + 4) (Int32.toNatClampNeg x2))] (fun v3 u4 => ((x3 ≤ v3) → (q_id 116 6 o0) ∧ (q_id 116 14 (o0 + 1)) ∧ (vp_in (50 + (w.1 (r1 + 4) (Int32.toNatClampNeg x2))) (q_sh (o0 + 1)).2) ∧ (q_id 116 14 (o0 + 1)) ∧ (vp_in (50 + (w.1 (r1 + 4) (Int32.toNatClampNeg x2))) (q_sh (o0 + 1)).2) ∧ ∀ w_5 : q_Sm, w_5 = q_wI u4 (o0 + 1) (Int32.toNatClampNeg (50 + (w.1 (r1 + 4) (Int32.toNatClampNeg x2)))) ((u4.1 (o0 + 1) (Int32.toNatClampNeg (50 + (w.1 (r1 + 4) (Int32.toNatClampNeg x2))))) - x3) → (q_id 116 6 o0) ∧ (q_id 116 14 (o0 + 1)) ∧ (vp_in (0 + x2) (q_sh (o0 + 1)).2) ∧ (q_id 116 14 (o0 + 1)) ∧ (vp_in (0 + x2) (q_sh (o0 + 1)).2) ∧ ∀ w_6 : q_Sm, w_6 = q_wI w_5 (o0 + 1) (Int32.toNatClampNeg (0 + x2)) ((w_5.1 (o0 + 1) (Int32.toNatClampNeg (0 + x2))) - x3) → (q_id 116 6 o0) ∧ (q_id 116 14 (o0 + 1)) ∧ (vp_in (20 + x2) (q_sh (o0 + 1)).2) ∧ (q_id 116 14 (o0 + 1)) ∧ (vp_in (20 + x2) (q_sh (o0 + 1)).2) ∧ ∀ w_7 : q_Sm, w_7 = q_wI w_6 (o0 + 1) (Int32.toNatClampNeg (20 + x2)) ((w_6.1 (o0 + 1) (Int32.toNatClampNeg (20 + x2))) + x3) → (q_id 116 6 o0) ∧ (q_id 116 14 (o0 + 1)) ∧ (vp_in (30 + x2) (q_sh (o0 + 1)).2) ∧ (q_id 116 14 (o0 + 1)) ∧ (vp_in (30 + x2) (q_sh (o0 + 1)).2) ∧ ∀ w_8 : q_Sm, w_8 = q_wI w_7 (o0 + 1) (Int32.toNatClampNeg (30 + x2)) ((w_7.1 (o0 + 1) (Int32.toNatClampNeg (30 + x2))) + x3) → Q (some (.int (1))) w_8) ∧ (¬ (x3 ≤ v3) → Q (some (.int (0))) u4)) X)) X)
theorem xX6_pay_0 {d : Nat} {o0 : Nat} {r1 : Nat} {x2 : Int32} {x3 : Int32} {w : q_Sm} {Q : s_Po} {X : s_Xo} (h : vX6_pay_0 d o0 r1 x2 x3 w Q X) : s_Ex (d + 1) 0 mX6_pay 0 [some (.ref (o0)), some (.ref (r1)), some (.int (x2)), some (.int (x3)), none] [] w Q X := by
  unfold vX6_pay_0 at h
  obtain ⟨ho29, h⟩ := h
  obtain ⟨ho30, h⟩ := h
  obtain ⟨ho31, h⟩ := h
  refine s_blk [(.aload_n 1, 1, 0, 0), (.getfield 43, 3, 2, 5), (.iload_n 2, 1, 0, 0), (.iaload, 1, 0, 0), (.istore 4, 2, 0, 0), (.iload_n 3, 1, 0, 0)] 9 [some (.ref (o0)), some (.ref (r1)), some (.int (x2)), some (.int (x3)), some (.int (w.1 (r1 + 4) (Int32.toNatClampNeg x2)))] [.int (x3)] w [q_id 116 2 r1, q_id 116 14 (r1 + 4), vp_in x2 (q_sh (r1 + 4)).2] (by decide +kernel) (by refine qt_aload_n (r := r1) rfl ?_; refine qt_getR (r := r1 + 4) rfl rfl ?_; refine qt_iload_n (x := x2) rfl ?_; refine qt_iald ?_; refine qt_istore (L' := [some (.ref (o0)), some (.ref (r1)), some (.int (x2)), some (.int (x3)), some (.int (w.1 (r1 + 4) (Int32.toNatClampNeg x2)))]) rfl ?_; refine qt_iload_n (x := x3) rfl ?_; exact qt_z rfl rfl rfl rfl rfl) ⟨ho29, ho30, ho31⟩ ?_
  refine s_if (cd := .le) (off := 22) 31 (by decide +kernel) (by decide) (fun hc => ?_) (fun hc => ?_)
  · replace h := h.1 hc
    refine s_blk [(.iconst 0, 1, 0, 0)] 32 [some (.ref (o0)), some (.ref (r1)), some (.int (x2)), some (.int (x3)), some (.int (w.1 (r1 + 4) (Int32.toNatClampNeg x2)))] [.int (0)] w [] (by decide +kernel) (by refine qt_iconst qc_0 ?_; exact qt_z rfl rfl rfl rfl rfl) trivial ?_
    exact s_retI .boolean (by decide +kernel) rfl rfl h
  · replace h := h.2 hc
    refine s_blk [(.iload_n 3, 1, 0, 0), (.aload_n 0, 1, 0, 0), (.iload_n 2, 1, 0, 0)] 15 [some (.ref (o0)), some (.ref (r1)), some (.int (x2)), some (.int (x3)), some (.int (w.1 (r1 + 4) (Int32.toNatClampNeg x2)))] [.int (x2), .ref (o0), .int (x3)] w [] (by decide +kernel) (by refine qt_iload_n (x := x3) rfl ?_; refine qt_aload_n (r := o0) rfl ?_; refine qt_iload_n (x := x2) rfl ?_; exact qt_z rfl rfl rfl rfl rfl) trivial ?_
    obtain ⟨hid, h⟩ := h
    refine s_callV (a := 0) (a' := 0) (As := [.int (x2)]) (id := o0) (st := [.int (x3)]) kX6_owed l_6_46 (by decide +kernel) hid rfl (Nat.le_of_ble_eq_true rfl) (s_mono h (s_I_of (fun v1 u2 h => ?_)) (fun _ _ h9 => h9))
    show s_Ex (d + 1) 0 mX6_pay 18 [some (.ref (o0)), some (.ref (r1)), some (.int (x2)), some (.int (x3)), some (.int (w.1 (r1 + 4) (Int32.toNatClampNeg x2)))] [.int (v1), .int (x3)] u2 Q X
    refine s_icmp (cd := .gt) (off := 13) 31 (by decide +kernel) (by decide) (fun hc => ?_) (fun hc => ?_)
    · replace h := h.1 hc
      refine s_blk [(.iconst 0, 1, 0, 0)] 32 [some (.ref (o0)), some (.ref (r1)), some (.int (x2)), some (.int (x3)), some (.int (w.1 (r1 + 4) (Int32.toNatClampNeg x2)))] [.int (0)] u2 [] (by decide +kernel) (by refine qt_iconst qc_0 ?_; exact qt_z rfl rfl rfl rfl rfl) trivial ?_
      exact s_retI .boolean (by decide +kernel) rfl rfl h
    · replace h := h.2 hc
      refine s_blk [(.iload_n 3, 1, 0, 0), (.aload_n 0, 1, 0, 0), (.iload 4, 2, 0, 0)] 25 [some (.ref (o0)), some (.ref (r1)), some (.int (x2)), some (.int (x3)), some (.int (w.1 (r1 + 4) (Int32.toNatClampNeg x2)))] [.int (w.1 (r1 + 4) (Int32.toNatClampNeg x2)), .ref (o0), .int (x3)] u2 [] (by decide +kernel) (by refine qt_iload_n (x := x3) rfl ?_; refine qt_aload_n (r := o0) rfl ?_; refine qt_iload (x := w.1 (r1 + 4) (Int32.toNatClampNeg x2)) rfl ?_; exact qt_z rfl rfl rfl rfl rfl) trivial ?_
      obtain ⟨hid, h⟩ := h
      refine s_callV (a := 0) (a' := 0) (As := [.int (w.1 (r1 + 4) (Int32.toNatClampNeg x2))]) (id := o0) (st := [.int (x3)]) kX6_unspent l_6_50 (by decide +kernel) hid rfl (Nat.le_of_ble_eq_true rfl) (s_mono h (s_I_of (fun v3 u4 h => ?_)) (fun _ _ h9 => h9))
      show s_Ex (d + 1) 0 mX6_pay 28 [some (.ref (o0)), some (.ref (r1)), some (.int (x2)), some (.int (x3)), some (.int (w.1 (r1 + 4) (Int32.toNatClampNeg x2)))] [.int (v3), .int (x3)] u4 Q X
      refine s_icmp (cd := .le) (off := 5) 33 (by decide +kernel) (by decide) (fun hc => ?_) (fun hc => ?_)
      · replace h := h.1 hc
        obtain ⟨ho9, h⟩ := h
        obtain ⟨ho10, h⟩ := h
        obtain ⟨ho11, h⟩ := h
        obtain ⟨ho12, h⟩ := h
        obtain ⟨ho13, h⟩ := h
        replace h := h _ rfl
        obtain ⟨ho14, h⟩ := h
        obtain ⟨ho15, h⟩ := h
        obtain ⟨ho16, h⟩ := h
        obtain ⟨ho17, h⟩ := h
        obtain ⟨ho18, h⟩ := h
        replace h := h _ rfl
        obtain ⟨ho19, h⟩ := h
        obtain ⟨ho20, h⟩ := h
        obtain ⟨ho21, h⟩ := h
        obtain ⟨ho22, h⟩ := h
        obtain ⟨ho23, h⟩ := h
        replace h := h _ rfl
        obtain ⟨ho24, h⟩ := h
        obtain ⟨ho25, h⟩ := h
        obtain ⟨ho26, h⟩ := h
        obtain ⟨ho27, h⟩ := h
        obtain ⟨ho28, h⟩ := h
        replace h := h _ rfl
        refine s_blk [(.aload_n 0, 1, 0, 0), (.getfield 11, 3, 6, 0), (.bipush 50, 2, 0, 0), (.iload 4, 2, 0, 0), (.iadd, 1, 0, 0), (.dup2, 1, 0, 0), (.iaload, 1, 0, 0), (.iload_n 3, 1, 0, 0), (.isub, 1, 0, 0), (.iastore, 1, 0, 0), (.aload_n 0, 1, 0, 0), (.getfield 11, 3, 6, 0), (.iconst 0, 1, 0, 0), (.iload_n 2, 1, 0, 0), (.iadd, 1, 0, 0), (.dup2, 1, 0, 0), (.iaload, 1, 0, 0), (.iload_n 3, 1, 0, 0), (.isub, 1, 0, 0), (.iastore, 1, 0, 0), (.aload_n 0, 1, 0, 0), (.getfield 11, 3, 6, 0), (.bipush 20, 2, 0, 0), (.iload_n 2, 1, 0, 0), (.iadd, 1, 0, 0), (.dup2, 1, 0, 0), (.iaload, 1, 0, 0), (.iload_n 3, 1, 0, 0), (.iadd, 1, 0, 0), (.iastore, 1, 0, 0), (.aload_n 0, 1, 0, 0), (.getfield 11, 3, 6, 0), (.bipush 30, 2, 0, 0), (.iload_n 2, 1, 0, 0), (.iadd, 1, 0, 0), (.dup2, 1, 0, 0), (.iaload, 1, 0, 0), (.iload_n 3, 1, 0, 0), (.iadd, 1, 0, 0), (.iastore, 1, 0, 0), (.iconst 1, 1, 0, 0)] 86 [some (.ref (o0)), some (.ref (r1)), some (.int (x2)), some (.int (x3)), some (.int (w.1 (r1 + 4) (Int32.toNatClampNeg x2)))] [.int (1)] (q_wI (q_wI (q_wI (q_wI u4 (o0 + 1) (Int32.toNatClampNeg (50 + (w.1 (r1 + 4) (Int32.toNatClampNeg x2)))) ((u4.1 (o0 + 1) (Int32.toNatClampNeg (50 + (w.1 (r1 + 4) (Int32.toNatClampNeg x2))))) - x3)) (o0 + 1) (Int32.toNatClampNeg (0 + x2)) (((q_wI u4 (o0 + 1) (Int32.toNatClampNeg (50 + (w.1 (r1 + 4) (Int32.toNatClampNeg x2)))) ((u4.1 (o0 + 1) (Int32.toNatClampNeg (50 + (w.1 (r1 + 4) (Int32.toNatClampNeg x2))))) - x3)).1 (o0 + 1) (Int32.toNatClampNeg (0 + x2))) - x3)) (o0 + 1) (Int32.toNatClampNeg (20 + x2)) (((q_wI (q_wI u4 (o0 + 1) (Int32.toNatClampNeg (50 + (w.1 (r1 + 4) (Int32.toNatClampNeg x2)))) ((u4.1 (o0 + 1) (Int32.toNatClampNeg (50 + (w.1 (r1 + 4) (Int32.toNatClampNeg x2))))) - x3)) (o0 + 1) (Int32.toNatClampNeg (0 + x2)) (((q_wI u4 (o0 + 1) (Int32.toNatClampNeg (50 + (w.1 (r1 + 4) (Int32.toNatClampNeg x2)))) ((u4.1 (o0 + 1) (Int32.toNatClampNeg (50 + (w.1 (r1 + 4) (Int32.toNatClampNeg x2))))) - x3)).1 (o0 + 1) (Int32.toNatClampNeg (0 + x2))) - x3)).1 (o0 + 1) (Int32.toNatClampNeg (20 + x2))) + x3)) (o0 + 1) (Int32.toNatClampNeg (30 + x2)) (((q_wI (q_wI (q_wI u4 (o0 + 1) (Int32.toNatClampNeg (50 + (w.1 (r1 + 4) (Int32.toNatClampNeg x2)))) ((u4.1 (o0 + 1) (Int32.toNatClampNeg (50 + (w.1 (r1 + 4) (Int32.toNatClampNeg x2))))) - x3)) (o0 + 1) (Int32.toNatClampNeg (0 + x2)) (((q_wI u4 (o0 + 1) (Int32.toNatClampNeg (50 + (w.1 (r1 + 4) (Int32.toNatClampNeg x2)))) ((u4.1 (o0 + 1) (Int32.toNatClampNeg (50 + (w.1 (r1 + 4) (Int32.toNatClampNeg x2))))) - x3)).1 (o0 + 1) (Int32.toNatClampNeg (0 + x2))) - x3)) (o0 + 1) (Int32.toNatClampNeg (20 + x2)) (((q_wI (q_wI u4 (o0 + 1) (Int32.toNatClampNeg (50 + (w.1 (r1 + 4) (Int32.toNatClampNeg x2)))) ((u4.1 (o0 + 1) (Int32.toNatClampNeg (50 + (w.1 (r1 + 4) (Int32.toNatClampNeg x2))))) - x3)) (o0 + 1) (Int32.toNatClampNeg (0 + x2)) (((q_wI u4 (o0 + 1) (Int32.toNatClampNeg (50 + (w.1 (r1 + 4) (Int32.toNatClampNeg x2)))) ((u4.1 (o0 + 1) (Int32.toNatClampNeg (50 + (w.1 (r1 + 4) (Int32.toNatClampNeg x2))))) - x3)).1 (o0 + 1) (Int32.toNatClampNeg (0 + x2))) - x3)).1 (o0 + 1) (Int32.toNatClampNeg (20 + x2))) + x3)).1 (o0 + 1) (Int32.toNatClampNeg (30 + x2))) + x3)) [q_id 116 6 o0, q_id 116 14 (o0 + 1), vp_in (50 + (w.1 (r1 + 4) (Int32.toNatClampNeg x2))) (q_sh (o0 + 1)).2, q_id 116 14 (o0 + 1), vp_in (50 + (w.1 (r1 + 4) (Int32.toNatClampNeg x2))) (q_sh (o0 + 1)).2, q_id 116 6 o0, q_id 116 14 (o0 + 1), vp_in (0 + x2) (q_sh (o0 + 1)).2, q_id 116 14 (o0 + 1), vp_in (0 + x2) (q_sh (o0 + 1)).2, q_id 116 6 o0, q_id 116 14 (o0 + 1), vp_in (20 + x2) (q_sh (o0 + 1)).2, q_id 116 14 (o0 + 1), vp_in (20 + x2) (q_sh (o0 + 1)).2, q_id 116 6 o0, q_id 116 14 (o0 + 1), vp_in (30 + x2) (q_sh (o0 + 1)).2, q_id 116 14 (o0 + 1), vp_in (30 + x2) (q_sh (o0 + 1)).2] (by decide +kernel) (by refine qt_aload_n (r := o0) rfl ?_; refine qt_getR (r := o0 + 1) rfl rfl ?_; refine qt_bipush qb_50 ?_; refine qt_iload (x := w.1 (r1 + 4) (Int32.toNatClampNeg x2)) rfl ?_; refine qt_iadd ?_; refine qt_dup2 ?_; refine qt_iald ?_; refine qt_iload_n (x := x3) rfl ?_; refine qt_isub ?_; refine qt_iast ?_; refine qt_aload_n (r := o0) rfl ?_; refine qt_getR (r := o0 + 1) rfl rfl ?_; refine qt_iconst qc_0 ?_; refine qt_iload_n (x := x2) rfl ?_; refine qt_iadd ?_; refine qt_dup2 ?_; refine qt_iald ?_; refine qt_iload_n (x := x3) rfl ?_; refine qt_isub ?_; refine qt_iast ?_; refine qt_aload_n (r := o0) rfl ?_; refine qt_getR (r := o0 + 1) rfl rfl ?_; refine qt_bipush qb_20 ?_; refine qt_iload_n (x := x2) rfl ?_; refine qt_iadd ?_; refine qt_dup2 ?_; refine qt_iald ?_; refine qt_iload_n (x := x3) rfl ?_; refine qt_iadd ?_; refine qt_iast ?_; refine qt_aload_n (r := o0) rfl ?_; refine qt_getR (r := o0 + 1) rfl rfl ?_; refine qt_bipush qb_30 ?_; refine qt_iload_n (x := x2) rfl ?_; refine qt_iadd ?_; refine qt_dup2 ?_; refine qt_iald ?_; refine qt_iload_n (x := x3) rfl ?_; refine qt_iadd ?_; refine qt_iast ?_; refine qt_iconst qc_1 ?_; exact qt_z rfl rfl rfl rfl rfl) ⟨ho9, ho10, ho11, ho12, ho13, ho14, ho15, ho16, ho17, ho18, ho19, ho20, ho21, ho22, ho23, ho24, ho25, ho26, ho27, ho28⟩ ?_
        exact s_retI .boolean (by decide +kernel) rfl rfl h
      · replace h := h.2 hc
        refine s_blk [(.iconst 0, 1, 0, 0)] 32 [some (.ref (o0)), some (.ref (r1)), some (.int (x2)), some (.int (x3)), some (.int (w.1 (r1 + 4) (Int32.toNatClampNeg x2)))] [.int (0)] u4 [] (by decide +kernel) (by refine qt_iconst qc_0 ?_; exact qt_z rfl rfl rfl rfl rfl) trivial ?_
        exact s_retI .boolean (by decide +kernel) rfl rfl h
theorem eX6_pay {d : Nat} {o0 : Nat} {r1 : Nat} {x2 : Int32} {x3 : Int32} {w : q_Sm} {Q : s_Po} {X : s_Xo} (h : vX6_pay_0 d o0 r1 x2 x3 w Q X) : s_Ev (d + 1) 0 mX6_pay w [.ref (o0), .ref (r1), .int (x2), .int (x3)] Q X := s_of (by decide) rfl (Nat.le_of_ble_eq_true rfl) (xX6_pay_0 h)
def vX6_borrow_0 (d : Nat) (o0 : Nat) (r1 : Nat) (x2 : Int32) (x3 : Int32) (w : q_Sm) (Q : s_Po) (X : s_Xo) : Prop := (q_id 116 2 r1) ∧ (q_id 116 14 (r1 + 11)) ∧ (vp_in x2 (q_sh (r1 + 11)).2) ∧ q_id 116 6 o0 ∧ s_EvI d 0 mX6_lent w [.ref (o0), .int (x2)] (fun v1 u2 => ((x3 ≤ ((w.1 (r1 + 11) (Int32.toNatClampNeg x2)) - v1)) → (q_id 116 6 o0) ∧ (q_id 116 14 (o0 + 1)) ∧ (vp_in (54 + x2) (q_sh (o0 + 1)).2) ∧ (q_id 116 14 (o0 + 1)) ∧ (vp_in (54 + x2) (q_sh (o0 + 1)).2) ∧ ∀ w_3 : q_Sm, w_3 = q_wI u2 (o0 + 1) (Int32.toNatClampNeg (54 + x2)) ((u2.1 (o0 + 1) (Int32.toNatClampNeg (54 + x2))) + x3) → (q_id 116 6 o0) ∧ (q_id 116 14 (o0 + 1)) ∧ (vp_in (50 + x2) (q_sh (o0 + 1)).2) ∧ (q_id 116 14 (o0 + 1)) ∧ (vp_in (50 + x2) (q_sh (o0 + 1)).2) ∧ ∀ w_4 : q_Sm, w_4 = q_wI w_3 (o0 + 1) (Int32.toNatClampNeg (50 + x2)) ((w_3.1 (o0 + 1) (Int32.toNatClampNeg (50 + x2))) + x3) → Q (some (.int (1))) w_4) ∧ (¬ (x3 ≤ ((w.1 (r1 + 11) (Int32.toNatClampNeg x2)) - v1)) → Q (some (.int (0))) u2)) X
theorem xX6_borrow_0 {d : Nat} {o0 : Nat} {r1 : Nat} {x2 : Int32} {x3 : Int32} {w : q_Sm} {Q : s_Po} {X : s_Xo} (h : vX6_borrow_0 d o0 r1 x2 x3 w Q X) : s_Ex (d + 1) 0 mX6_borrow 0 [some (.ref (o0)), some (.ref (r1)), some (.int (x2)), some (.int (x3))] [] w Q X := by
  unfold vX6_borrow_0 at h
  obtain ⟨ho15, h⟩ := h
  obtain ⟨ho16, h⟩ := h
  obtain ⟨ho17, h⟩ := h
  refine s_blk [(.iload_n 3, 1, 0, 0), (.aload_n 1, 1, 0, 0), (.getfield 53, 3, 2, 13), (.iload_n 2, 1, 0, 0), (.iaload, 1, 0, 0), (.aload_n 0, 1, 0, 0), (.iload_n 2, 1, 0, 0)] 9 [some (.ref (o0)), some (.ref (r1)), some (.int (x2)), some (.int (x3))] [.int (x2), .ref (o0), .int (w.1 (r1 + 11) (Int32.toNatClampNeg x2)), .int (x3)] w [q_id 116 2 r1, q_id 116 14 (r1 + 11), vp_in x2 (q_sh (r1 + 11)).2] (by decide +kernel) (by refine qt_iload_n (x := x3) rfl ?_; refine qt_aload_n (r := r1) rfl ?_; refine qt_getR (r := r1 + 11) rfl rfl ?_; refine qt_iload_n (x := x2) rfl ?_; refine qt_iald ?_; refine qt_aload_n (r := o0) rfl ?_; refine qt_iload_n (x := x2) rfl ?_; exact qt_z rfl rfl rfl rfl rfl) ⟨ho15, ho16, ho17⟩ ?_
  obtain ⟨hid, h⟩ := h
  refine s_callV (a := 0) (a' := 0) (As := [.int (x2)]) (id := o0) (st := [.int (w.1 (r1 + 11) (Int32.toNatClampNeg x2)), .int (x3)]) kX6_lent l_6_56 (by decide +kernel) hid rfl (Nat.le_of_ble_eq_true rfl) (s_mono h (s_I_of (fun v1 u2 h => ?_)) (fun _ _ h9 => h9))
  show s_Ex (d + 1) 0 mX6_borrow 12 [some (.ref (o0)), some (.ref (r1)), some (.int (x2)), some (.int (x3))] [.int (v1), .int (w.1 (r1 + 11) (Int32.toNatClampNeg x2)), .int (x3)] u2 Q X
  refine s_blk [(.isub, 1, 0, 0)] 13 [some (.ref (o0)), some (.ref (r1)), some (.int (x2)), some (.int (x3))] [.int ((w.1 (r1 + 11) (Int32.toNatClampNeg x2)) - v1), .int (x3)] u2 [] (by decide +kernel) (by refine qt_isub ?_; exact qt_z rfl rfl rfl rfl rfl) trivial ?_
  refine s_icmp (cd := .le) (off := 5) 18 (by decide +kernel) (by decide) (fun hc => ?_) (fun hc => ?_)
  · replace h := h.1 hc
    obtain ⟨ho5, h⟩ := h
    obtain ⟨ho6, h⟩ := h
    obtain ⟨ho7, h⟩ := h
    obtain ⟨ho8, h⟩ := h
    obtain ⟨ho9, h⟩ := h
    replace h := h _ rfl
    obtain ⟨ho10, h⟩ := h
    obtain ⟨ho11, h⟩ := h
    obtain ⟨ho12, h⟩ := h
    obtain ⟨ho13, h⟩ := h
    obtain ⟨ho14, h⟩ := h
    replace h := h _ rfl
    refine s_blk [(.aload_n 0, 1, 0, 0), (.getfield 11, 3, 6, 0), (.bipush 54, 2, 0, 0), (.iload_n 2, 1, 0, 0), (.iadd, 1, 0, 0), (.dup2, 1, 0, 0), (.iaload, 1, 0, 0), (.iload_n 3, 1, 0, 0), (.iadd, 1, 0, 0), (.iastore, 1, 0, 0), (.aload_n 0, 1, 0, 0), (.getfield 11, 3, 6, 0), (.bipush 50, 2, 0, 0), (.iload_n 2, 1, 0, 0), (.iadd, 1, 0, 0), (.dup2, 1, 0, 0), (.iaload, 1, 0, 0), (.iload_n 3, 1, 0, 0), (.iadd, 1, 0, 0), (.iastore, 1, 0, 0), (.iconst 1, 1, 0, 0)] 45 [some (.ref (o0)), some (.ref (r1)), some (.int (x2)), some (.int (x3))] [.int (1)] (q_wI (q_wI u2 (o0 + 1) (Int32.toNatClampNeg (54 + x2)) ((u2.1 (o0 + 1) (Int32.toNatClampNeg (54 + x2))) + x3)) (o0 + 1) (Int32.toNatClampNeg (50 + x2)) (((q_wI u2 (o0 + 1) (Int32.toNatClampNeg (54 + x2)) ((u2.1 (o0 + 1) (Int32.toNatClampNeg (54 + x2))) + x3)).1 (o0 + 1) (Int32.toNatClampNeg (50 + x2))) + x3)) [q_id 116 6 o0, q_id 116 14 (o0 + 1), vp_in (54 + x2) (q_sh (o0 + 1)).2, q_id 116 14 (o0 + 1), vp_in (54 + x2) (q_sh (o0 + 1)).2, q_id 116 6 o0, q_id 116 14 (o0 + 1), vp_in (50 + x2) (q_sh (o0 + 1)).2, q_id 116 14 (o0 + 1), vp_in (50 + x2) (q_sh (o0 + 1)).2] (by decide +kernel) (by refine qt_aload_n (r := o0) rfl ?_; refine qt_getR (r := o0 + 1) rfl rfl ?_; refine qt_bipush qb_54 ?_; refine qt_iload_n (x := x2) rfl ?_; refine qt_iadd ?_; refine qt_dup2 ?_; refine qt_iald ?_; refine qt_iload_n (x := x3) rfl ?_; refine qt_iadd ?_; refine qt_iast ?_; refine qt_aload_n (r := o0) rfl ?_; refine qt_getR (r := o0 + 1) rfl rfl ?_; refine qt_bipush qb_50 ?_; refine qt_iload_n (x := x2) rfl ?_; refine qt_iadd ?_; refine qt_dup2 ?_; refine qt_iald ?_; refine qt_iload_n (x := x3) rfl ?_; refine qt_iadd ?_; refine qt_iast ?_; refine qt_iconst qc_1 ?_; exact qt_z rfl rfl rfl rfl rfl) ⟨ho5, ho6, ho7, ho8, ho9, ho10, ho11, ho12, ho13, ho14⟩ ?_
    exact s_retI .boolean (by decide +kernel) rfl rfl h
  · replace h := h.2 hc
    refine s_blk [(.iconst 0, 1, 0, 0)] 17 [some (.ref (o0)), some (.ref (r1)), some (.int (x2)), some (.int (x3))] [.int (0)] u2 [] (by decide +kernel) (by refine qt_iconst qc_0 ?_; exact qt_z rfl rfl rfl rfl rfl) trivial ?_
    exact s_retI .boolean (by decide +kernel) rfl rfl h
theorem eX6_borrow {d : Nat} {o0 : Nat} {r1 : Nat} {x2 : Int32} {x3 : Int32} {w : q_Sm} {Q : s_Po} {X : s_Xo} (h : vX6_borrow_0 d o0 r1 x2 x3 w Q X) : s_Ev (d + 1) 0 mX6_borrow w [.ref (o0), .ref (r1), .int (x2), .int (x3)] Q X := s_of (by decide) rfl (Nat.le_of_ble_eq_true rfl) (xX6_borrow_0 h)
def vX6_handOn_0 (d : Nat) (o0 : Nat) (x1 : Int32) (x2 : Int32) (w : q_Sm) (Q : s_Po) (X : s_Xo) : Prop := q_id 116 6 o0 ∧ s_EvI d 0 mX6_owed w [.ref (o0), .int (x1)] (fun v1 u2 => ((v1 = 0) → Q (some (.int (0))) u2) ∧ (¬ (v1 = 0) → q_id 116 6 o0 ∧ s_EvI d 0 mX6_holder u2 [.ref (o0), .int (x1)] (fun v3 u4 => ((¬ v3 = x2) → (q_id 116 6 o0) ∧ (q_id 116 14 (o0 + 1)) ∧ (vp_in (10 + x1) (q_sh (o0 + 1)).2) ∧ ∀ w_5 : q_Sm, w_5 = q_wI u4 (o0 + 1) (Int32.toNatClampNeg (10 + x1)) x2 → Q (some (.int (1))) w_5) ∧ (¬ (¬ v3 = x2) → Q (some (.int (0))) u4)) X)) X
theorem xX6_handOn_0 {d : Nat} {o0 : Nat} {x1 : Int32} {x2 : Int32} {w : q_Sm} {Q : s_Po} {X : s_Xo} (h : vX6_handOn_0 d o0 x1 x2 w Q X) : s_Ex (d + 1) 0 mX6_handOn 0 [some (.ref (o0)), some (.int (x1)), some (.int (x2))] [] w Q X := by
  unfold vX6_handOn_0 at h
  refine s_blk [(.aload_n 0, 1, 0, 0), (.iload_n 1, 1, 0, 0)] 2 [some (.ref (o0)), some (.int (x1)), some (.int (x2))] [.int (x1), .ref (o0)] w [] (by decide +kernel) (by refine qt_aload_n (r := o0) rfl ?_; refine qt_iload_n (x := x1) rfl ?_; exact qt_z rfl rfl rfl rfl rfl) trivial ?_
  obtain ⟨hid, h⟩ := h
  refine s_callV (a := 0) (a' := 0) (As := [.int (x1)]) (id := o0) (st := []) kX6_owed l_6_46 (by decide +kernel) hid rfl (Nat.le_of_ble_eq_true rfl) (s_mono h (s_I_of (fun v1 u2 h => ?_)) (fun _ _ h9 => h9))
  show s_Ex (d + 1) 0 mX6_handOn 5 [some (.ref (o0)), some (.int (x1)), some (.int (x2))] [.int (v1)] u2 Q X
  refine s_if (cd := .eq) (off := 12) 17 (by decide +kernel) (by decide) (fun hc => ?_) (fun hc => ?_)
  · replace h := h.1 hc
    refine s_blk [(.iconst 0, 1, 0, 0)] 18 [some (.ref (o0)), some (.int (x1)), some (.int (x2))] [.int (0)] u2 [] (by decide +kernel) (by refine qt_iconst qc_0 ?_; exact qt_z rfl rfl rfl rfl rfl) trivial ?_
    exact s_retI .boolean (by decide +kernel) rfl rfl h
  · replace h := h.2 hc
    refine s_blk [(.aload_n 0, 1, 0, 0), (.iload_n 1, 1, 0, 0)] 10 [some (.ref (o0)), some (.int (x1)), some (.int (x2))] [.int (x1), .ref (o0)] u2 [] (by decide +kernel) (by refine qt_aload_n (r := o0) rfl ?_; refine qt_iload_n (x := x1) rfl ?_; exact qt_z rfl rfl rfl rfl rfl) trivial ?_
    obtain ⟨hid, h⟩ := h
    refine s_callV (a := 0) (a' := 0) (As := [.int (x1)]) (id := o0) (st := []) kX6_holder l_6_59 (by decide +kernel) hid rfl (Nat.le_of_ble_eq_true rfl) (s_mono h (s_I_of (fun v3 u4 h => ?_)) (fun _ _ h9 => h9))
    show s_Ex (d + 1) 0 mX6_handOn 13 [some (.ref (o0)), some (.int (x1)), some (.int (x2))] [.int (v3)] u4 Q X
    refine s_blk [(.iload_n 2, 1, 0, 0)] 14 [some (.ref (o0)), some (.int (x1)), some (.int (x2))] [.int (x2), .int (v3)] u4 [] (by decide +kernel) (by refine qt_iload_n (x := x2) rfl ?_; exact qt_z rfl rfl rfl rfl rfl) trivial ?_
    refine s_icmp (cd := .ne) (off := 5) 19 (by decide +kernel) (by decide) (fun hc => ?_) (fun hc => ?_)
    · replace h := h.1 hc
      obtain ⟨ho6, h⟩ := h
      obtain ⟨ho7, h⟩ := h
      obtain ⟨ho8, h⟩ := h
      replace h := h _ rfl
      refine s_blk [(.aload_n 0, 1, 0, 0), (.getfield 11, 3, 6, 0), (.bipush 10, 2, 0, 0), (.iload_n 1, 1, 0, 0), (.iadd, 1, 0, 0), (.iload_n 2, 1, 0, 0), (.iastore, 1, 0, 0), (.iconst 1, 1, 0, 0)] 30 [some (.ref (o0)), some (.int (x1)), some (.int (x2))] [.int (1)] (q_wI u4 (o0 + 1) (Int32.toNatClampNeg (10 + x1)) x2) [q_id 116 6 o0, q_id 116 14 (o0 + 1), vp_in (10 + x1) (q_sh (o0 + 1)).2] (by decide +kernel) (by refine qt_aload_n (r := o0) rfl ?_; refine qt_getR (r := o0 + 1) rfl rfl ?_; refine qt_bipush qb_10 ?_; refine qt_iload_n (x := x1) rfl ?_; refine qt_iadd ?_; refine qt_iload_n (x := x2) rfl ?_; refine qt_iast ?_; refine qt_iconst qc_1 ?_; exact qt_z rfl rfl rfl rfl rfl) ⟨ho6, ho7, ho8⟩ ?_
      exact s_retI .boolean (by decide +kernel) rfl rfl h
    · replace h := h.2 hc
      refine s_blk [(.iconst 0, 1, 0, 0)] 18 [some (.ref (o0)), some (.int (x1)), some (.int (x2))] [.int (0)] u4 [] (by decide +kernel) (by refine qt_iconst qc_0 ?_; exact qt_z rfl rfl rfl rfl rfl) trivial ?_
      exact s_retI .boolean (by decide +kernel) rfl rfl h
theorem eX6_handOn {d : Nat} {o0 : Nat} {x1 : Int32} {x2 : Int32} {w : q_Sm} {Q : s_Po} {X : s_Xo} (h : vX6_handOn_0 d o0 x1 x2 w Q X) : s_Ev (d + 1) 0 mX6_handOn w [.ref (o0), .int (x1), .int (x2)] Q X := s_of (by decide) rfl (Nat.le_of_ble_eq_true rfl) (xX6_handOn_0 h)
def vX6_takeLight_0 (d : Nat) (o0 : Nat) (r1 : Nat) (w : q_Sm) (Q : s_Po) (X : s_Xo) : Prop := s_Ex (d + 1) 0 mX6_takeLight 2 [some (.ref (o0)), some (.ref (r1)), some (.int (0))] [] w Q X
def vX6_takeLight_2 (d : Nat) (o0 : Nat) (r1 : Nat) (x2 : Int32) (w : q_Sm) (Q : s_Po) (X : s_Xo) : Prop := ((4 ≤ x2) → Q none w) ∧ (¬ (4 ≤ x2) → (q_id 116 6 o0) ∧ q_id 116 6 o0 ∧ s_EvI d 0 mX6_today w [.ref (o0)] (fun v1 u2 => q_id 116 2 r1 ∧ s_EvI d 0 mX2_shine u2 [.ref (r1), .int (v1), .int (x2)] (fun v3 u4 => (q_id 116 14 (o0 + 1)) ∧ (vp_in (50 + x2) (q_sh (o0 + 1)).2) ∧ ∀ w_5 : q_Sm, w_5 = q_wI u4 (o0 + 1) (Int32.toNatClampNeg (50 + x2)) v3 → s_Ex (d + 1) 0 mX6_takeLight 2 [some (.ref (o0)), some (.ref (r1)), some (.int (x2 + 1))] [] w_5 Q X) X) X)
theorem xX6_takeLight_0 {d : Nat} {o0 : Nat} {r1 : Nat} {w : q_Sm} {Q : s_Po} {X : s_Xo} (h : vX6_takeLight_0 d o0 r1 w Q X) : s_Ex (d + 1) 0 mX6_takeLight 0 [some (.ref (o0)), some (.ref (r1)), none] [] w Q X := by
  unfold vX6_takeLight_0 at h
  refine s_blk [(.iconst 0, 1, 0, 0), (.istore_n 2, 1, 0, 0)] 2 [some (.ref (o0)), some (.ref (r1)), some (.int (0))] [] w [] (by decide +kernel) (by refine qt_iconst qc_0 ?_; refine qt_istore_n (L' := [some (.ref (o0)), some (.ref (r1)), some (.int (0))]) rfl ?_; exact qt_z rfl rfl rfl rfl rfl) trivial ?_
  exact h
theorem xX6_takeLight_2 {d : Nat} {o0 : Nat} {r1 : Nat} {x2 : Int32} {w : q_Sm} {Q : s_Po} {X : s_Xo} (h : vX6_takeLight_2 d o0 r1 x2 w Q X) : s_Ex (d + 1) 0 mX6_takeLight 2 [some (.ref (o0)), some (.ref (r1)), some (.int (x2))] [] w Q X := by
  unfold vX6_takeLight_2 at h
  refine s_blk [(.iload_n 2, 1, 0, 0), (.iconst 4, 1, 0, 0)] 4 [some (.ref (o0)), some (.ref (r1)), some (.int (x2))] [.int (4), .int (x2)] w [] (by decide +kernel) (by refine qt_iload_n (x := x2) rfl ?_; refine qt_iconst qc_4 ?_; exact qt_z rfl rfl rfl rfl rfl) trivial ?_
  refine s_icmp (cd := .ge) (off := 27) 31 (by decide +kernel) (by decide) (fun hc => ?_) (fun hc => ?_)
  · replace h := h.1 hc
    exact s_retV (by decide +kernel) rfl h
  · replace h := h.2 hc
    obtain ⟨ho8, h⟩ := h
    refine s_blk [(.aload_n 0, 1, 0, 0), (.getfield 11, 3, 6, 0), (.bipush 50, 2, 0, 0), (.iload_n 2, 1, 0, 0), (.iadd, 1, 0, 0), (.aload_n 1, 1, 0, 0), (.aload_n 0, 1, 0, 0)] 17 [some (.ref (o0)), some (.ref (r1)), some (.int (x2))] [.ref (o0), .ref (r1), .int (50 + x2), .ref (o0 + 1)] w [q_id 116 6 o0] (by decide +kernel) (by refine qt_aload_n (r := o0) rfl ?_; refine qt_getR (r := o0 + 1) rfl rfl ?_; refine qt_bipush qb_50 ?_; refine qt_iload_n (x := x2) rfl ?_; refine qt_iadd ?_; refine qt_aload_n (r := r1) rfl ?_; refine qt_aload_n (r := o0) rfl ?_; exact qt_z rfl rfl rfl rfl rfl) ho8 ?_
    obtain ⟨hid, h⟩ := h
    refine s_callV (a := 0) (a' := 0) (As := []) (id := o0) (st := [.ref (r1), .int (50 + x2), .ref (o0 + 1)]) kX6_today l_6_65 (by decide +kernel) hid rfl (Nat.le_of_ble_eq_true rfl) (s_mono h (s_I_of (fun v1 u2 h => ?_)) (fun _ _ h9 => h9))
    show s_Ex (d + 1) 0 mX6_takeLight 20 [some (.ref (o0)), some (.ref (r1)), some (.int (x2))] [.int (v1), .ref (r1), .int (50 + x2), .ref (o0 + 1)] u2 Q X
    refine s_blk [(.iload_n 2, 1, 0, 0)] 21 [some (.ref (o0)), some (.ref (r1)), some (.int (x2))] [.int (x2), .int (v1), .ref (r1), .int (50 + x2), .ref (o0 + 1)] u2 [] (by decide +kernel) (by refine qt_iload_n (x := x2) rfl ?_; exact qt_z rfl rfl rfl rfl rfl) trivial ?_
    obtain ⟨hid, h⟩ := h
    refine s_callV (a := 0) (a' := 0) (As := [.int (v1), .int (x2)]) (id := r1) (st := [.int (50 + x2), .ref (o0 + 1)]) kX2_shine l_6_82 (by decide +kernel) hid rfl (Nat.le_of_ble_eq_true rfl) (s_mono h (s_I_of (fun v3 u4 h => ?_)) (fun _ _ h9 => h9))
    show s_Ex (d + 1) 0 mX6_takeLight 24 [some (.ref (o0)), some (.ref (r1)), some (.int (x2))] [.int (v3), .int (50 + x2), .ref (o0 + 1)] u4 Q X
    obtain ⟨ho6, h⟩ := h
    obtain ⟨ho7, h⟩ := h
    replace h := h _ rfl
    refine s_blk [(.iastore, 1, 0, 0), (.iinc 2 1, 3, 0, 0), (.goto (-26), 3, 2, 0)] 2 [some (.ref (o0)), some (.ref (r1)), some (.int (x2 + 1))] [] (q_wI u4 (o0 + 1) (Int32.toNatClampNeg (50 + x2)) v3) [q_id 116 14 (o0 + 1), vp_in (50 + x2) (q_sh (o0 + 1)).2] (by decide +kernel) (by refine qt_iast ?_; refine qt_iinc (x := x2) (L' := [some (.ref (o0)), some (.ref (r1)), some (.int (x2 + 1))]) rfl qc_1 rfl ?_; refine qt_goto ?_; exact qt_z rfl rfl rfl rfl rfl) ⟨ho6, ho7⟩ ?_
    exact h
theorem eX6_takeLight {d : Nat} {o0 : Nat} {r1 : Nat} {w : q_Sm} {Q : s_Po} {X : s_Xo} (h : vX6_takeLight_0 d o0 r1 w Q X) : s_Ev (d + 1) 0 mX6_takeLight w [.ref (o0), .ref (r1)] Q X := s_of (by decide) rfl (Nat.le_of_ble_eq_true rfl) (xX6_takeLight_0 h)
def vX6_loseLight_0 (d : Nat) (o0 : Nat) (w : q_Sm) (Q : s_Po) (X : s_Xo) : Prop := s_Ex (d + 1) 0 mX6_loseLight 2 [some (.ref (o0)), some (.int (0))] [] w Q X
def vX6_loseLight_2 (d : Nat) (o0 : Nat) (x1 : Int32) (w : q_Sm) (Q : s_Po) (X : s_Xo) : Prop := ((4 ≤ x1) → Q none w) ∧ (¬ (4 ≤ x1) → (q_id 116 6 o0) ∧ (q_id 116 14 (o0 + 1)) ∧ (vp_in (50 + x1) (q_sh (o0 + 1)).2) ∧ ∀ w_1 : q_Sm, w_1 = q_wI w (o0 + 1) (Int32.toNatClampNeg (50 + x1)) 0 → s_Ex (d + 1) 0 mX6_loseLight 2 [some (.ref (o0)), some (.int (x1 + 1))] [] w_1 Q X)
theorem xX6_loseLight_0 {d : Nat} {o0 : Nat} {w : q_Sm} {Q : s_Po} {X : s_Xo} (h : vX6_loseLight_0 d o0 w Q X) : s_Ex (d + 1) 0 mX6_loseLight 0 [some (.ref (o0)), none] [] w Q X := by
  unfold vX6_loseLight_0 at h
  refine s_blk [(.iconst 0, 1, 0, 0), (.istore_n 1, 1, 0, 0)] 2 [some (.ref (o0)), some (.int (0))] [] w [] (by decide +kernel) (by refine qt_iconst qc_0 ?_; refine qt_istore_n (L' := [some (.ref (o0)), some (.int (0))]) rfl ?_; exact qt_z rfl rfl rfl rfl rfl) trivial ?_
  exact h
theorem xX6_loseLight_2 {d : Nat} {o0 : Nat} {x1 : Int32} {w : q_Sm} {Q : s_Po} {X : s_Xo} (h : vX6_loseLight_2 d o0 x1 w Q X) : s_Ex (d + 1) 0 mX6_loseLight 2 [some (.ref (o0)), some (.int (x1))] [] w Q X := by
  unfold vX6_loseLight_2 at h
  refine s_blk [(.iload_n 1, 1, 0, 0), (.iconst 4, 1, 0, 0)] 4 [some (.ref (o0)), some (.int (x1))] [.int (4), .int (x1)] w [] (by decide +kernel) (by refine qt_iload_n (x := x1) rfl ?_; refine qt_iconst qc_4 ?_; exact qt_z rfl rfl rfl rfl rfl) trivial ?_
  refine s_icmp (cd := .ge) (off := 19) 23 (by decide +kernel) (by decide) (fun hc => ?_) (fun hc => ?_)
  · replace h := h.1 hc
    exact s_retV (by decide +kernel) rfl h
  · replace h := h.2 hc
    obtain ⟨ho2, h⟩ := h
    obtain ⟨ho3, h⟩ := h
    obtain ⟨ho4, h⟩ := h
    replace h := h _ rfl
    refine s_blk [(.aload_n 0, 1, 0, 0), (.getfield 11, 3, 6, 0), (.bipush 50, 2, 0, 0), (.iload_n 1, 1, 0, 0), (.iadd, 1, 0, 0), (.iconst 0, 1, 0, 0), (.iastore, 1, 0, 0), (.iinc 1 1, 3, 0, 0), (.goto (-18), 3, 2, 0)] 2 [some (.ref (o0)), some (.int (x1 + 1))] [] (q_wI w (o0 + 1) (Int32.toNatClampNeg (50 + x1)) 0) [q_id 116 6 o0, q_id 116 14 (o0 + 1), vp_in (50 + x1) (q_sh (o0 + 1)).2] (by decide +kernel) (by refine qt_aload_n (r := o0) rfl ?_; refine qt_getR (r := o0 + 1) rfl rfl ?_; refine qt_bipush qb_50 ?_; refine qt_iload_n (x := x1) rfl ?_; refine qt_iadd ?_; refine qt_iconst qc_0 ?_; refine qt_iast ?_; refine qt_iinc (x := x1) (L' := [some (.ref (o0)), some (.int (x1 + 1))]) rfl qc_1 rfl ?_; refine qt_goto ?_; exact qt_z rfl rfl rfl rfl rfl) ⟨ho2, ho3, ho4⟩ ?_
    exact h
theorem eX6_loseLight {d : Nat} {o0 : Nat} {w : q_Sm} {Q : s_Po} {X : s_Xo} (h : vX6_loseLight_0 d o0 w Q X) : s_Ev (d + 1) 0 mX6_loseLight w [.ref (o0)] Q X := s_of (by decide) rfl (Nat.le_of_ble_eq_true rfl) (xX6_loseLight_0 h)
def vX6_growth_0 (d : Nat) (o0 : Nat) (x1 : Int32) (r2 : Nat) (r3 : Nat) (w : q_Sm) (Q : s_Po) (X : s_Xo) : Prop := q_id 116 6 o0 ∧ s_EvI d 0 mX6_owed w [.ref (o0), .int (x1)] (fun v1 u2 => q_id 116 6 o0 ∧ s_EvI d 0 mX6_paidToday u2 [.ref (o0), .int (x1)] (fun v3 u4 => q_id 116 6 o0 ∧ s_EvI d 0 mX6_today u4 [.ref (o0)] (fun v5 u6 => q_id 116 6 o0 ∧ s_EvI d 0 mX6_growthOf u6 [.ref (o0), .int (x1), .int (v1), .int (v3), .int (v5), .ref (r2), .ref (r3)] (fun v7 u8 => Q (some (.int (v7))) u8) X) X) X) X
theorem xX6_growth_0 {d : Nat} {o0 : Nat} {x1 : Int32} {r2 : Nat} {r3 : Nat} {w : q_Sm} {Q : s_Po} {X : s_Xo} (h : vX6_growth_0 d o0 x1 r2 r3 w Q X) : s_Ex (d + 1) 0 mX6_growth 0 [some (.ref (o0)), some (.int (x1)), some (.ref (r2)), some (.ref (r3))] [] w Q X := by
  unfold vX6_growth_0 at h
  refine s_blk [(.aload_n 0, 1, 0, 0), (.iload_n 1, 1, 0, 0), (.aload_n 0, 1, 0, 0), (.iload_n 1, 1, 0, 0)] 4 [some (.ref (o0)), some (.int (x1)), some (.ref (r2)), some (.ref (r3))] [.int (x1), .ref (o0), .int (x1), .ref (o0)] w [] (by decide +kernel) (by refine qt_aload_n (r := o0) rfl ?_; refine qt_iload_n (x := x1) rfl ?_; refine qt_aload_n (r := o0) rfl ?_; refine qt_iload_n (x := x1) rfl ?_; exact qt_z rfl rfl rfl rfl rfl) trivial ?_
  obtain ⟨hid, h⟩ := h
  refine s_callV (a := 0) (a' := 0) (As := [.int (x1)]) (id := o0) (st := [.int (x1), .ref (o0)]) kX6_owed l_6_46 (by decide +kernel) hid rfl (Nat.le_of_ble_eq_true rfl) (s_mono h (s_I_of (fun v1 u2 h => ?_)) (fun _ _ h9 => h9))
  show s_Ex (d + 1) 0 mX6_growth 7 [some (.ref (o0)), some (.int (x1)), some (.ref (r2)), some (.ref (r3))] [.int (v1), .int (x1), .ref (o0)] u2 Q X
  refine s_blk [(.aload_n 0, 1, 0, 0), (.iload_n 1, 1, 0, 0)] 9 [some (.ref (o0)), some (.int (x1)), some (.ref (r2)), some (.ref (r3))] [.int (x1), .ref (o0), .int (v1), .int (x1), .ref (o0)] u2 [] (by decide +kernel) (by refine qt_aload_n (r := o0) rfl ?_; refine qt_iload_n (x := x1) rfl ?_; exact qt_z rfl rfl rfl rfl rfl) trivial ?_
  obtain ⟨hid, h⟩ := h
  refine s_callV (a := 0) (a' := 0) (As := [.int (x1)]) (id := o0) (st := [.int (v1), .int (x1), .ref (o0)]) kX6_paidToday l_6_62 (by decide +kernel) hid rfl (Nat.le_of_ble_eq_true rfl) (s_mono h (s_I_of (fun v3 u4 h => ?_)) (fun _ _ h9 => h9))
  show s_Ex (d + 1) 0 mX6_growth 12 [some (.ref (o0)), some (.int (x1)), some (.ref (r2)), some (.ref (r3))] [.int (v3), .int (v1), .int (x1), .ref (o0)] u4 Q X
  refine s_blk [(.aload_n 0, 1, 0, 0)] 13 [some (.ref (o0)), some (.int (x1)), some (.ref (r2)), some (.ref (r3))] [.ref (o0), .int (v3), .int (v1), .int (x1), .ref (o0)] u4 [] (by decide +kernel) (by refine qt_aload_n (r := o0) rfl ?_; exact qt_z rfl rfl rfl rfl rfl) trivial ?_
  obtain ⟨hid, h⟩ := h
  refine s_callV (a := 0) (a' := 0) (As := []) (id := o0) (st := [.int (v3), .int (v1), .int (x1), .ref (o0)]) kX6_today l_6_65 (by decide +kernel) hid rfl (Nat.le_of_ble_eq_true rfl) (s_mono h (s_I_of (fun v5 u6 h => ?_)) (fun _ _ h9 => h9))
  show s_Ex (d + 1) 0 mX6_growth 16 [some (.ref (o0)), some (.int (x1)), some (.ref (r2)), some (.ref (r3))] [.int (v5), .int (v3), .int (v1), .int (x1), .ref (o0)] u6 Q X
  refine s_blk [(.aload_n 2, 1, 0, 0), (.aload_n 3, 1, 0, 0)] 18 [some (.ref (o0)), some (.int (x1)), some (.ref (r2)), some (.ref (r3))] [.ref (r3), .ref (r2), .int (v5), .int (v3), .int (v1), .int (x1), .ref (o0)] u6 [] (by decide +kernel) (by refine qt_aload_n (r := r2) rfl ?_; refine qt_aload_n (r := r3) rfl ?_; exact qt_z rfl rfl rfl rfl rfl) trivial ?_
  obtain ⟨hid, h⟩ := h
  refine s_callV (a := 0) (a' := 0) (As := [.int (x1), .int (v1), .int (v3), .int (v5), .ref (r2), .ref (r3)]) (id := o0) (st := []) kX6_growthOf l_6_69 (by decide +kernel) hid rfl (Nat.le_of_ble_eq_true rfl) (s_mono h (s_I_of (fun v7 u8 h => ?_)) (fun _ _ h9 => h9))
  show s_Ex (d + 1) 0 mX6_growth 21 [some (.ref (o0)), some (.int (x1)), some (.ref (r2)), some (.ref (r3))] [.int (v7)] u8 Q X
  exact s_retI .int (by decide +kernel) rfl rfl h
theorem eX6_growth {d : Nat} {o0 : Nat} {x1 : Int32} {r2 : Nat} {r3 : Nat} {w : q_Sm} {Q : s_Po} {X : s_Xo} (h : vX6_growth_0 d o0 x1 r2 r3 w Q X) : s_Ev (d + 1) 0 mX6_growth w [.ref (o0), .int (x1), .ref (r2), .ref (r3)] Q X := s_of (by decide) rfl (Nat.le_of_ble_eq_true rfl) (xX6_growth_0 h)
def vX6_firstDue_0 (d : Nat) (o0 : Nat) (r1 : Nat) (w : q_Sm) (Q : s_Po) (X : s_Xo) : Prop := s_Ex (d + 1) 0 mX6_firstDue 2 [some (.ref (o0)), some (.ref (r1)), some (.int (0))] [] w Q X
def vX6_firstDue_2 (d : Nat) (o0 : Nat) (r1 : Nat) (x2 : Int32) (w : q_Sm) (Q : s_Po) (X : s_Xo) : Prop := (q_id 116 2 r1) ∧ (((w.1 r1 3) ≤ x2) → Q (some (.int (-1))) w) ∧ (¬ ((w.1 r1 3) ≤ x2) → (q_id 116 2 r1) ∧ (q_id 116 14 (r1 + 8)) ∧ (vp_in x2 (q_sh (r1 + 8)).2) ∧ q_id 116 6 o0 ∧ s_EvI d 0 mX6_owed w [.ref (o0), .int (w.1 (r1 + 8) (Int32.toNatClampNeg x2))] (fun v1 u2 => ((v1 ≤ 0) → s_Ex (d + 1) 0 mX6_firstDue 2 [some (.ref (o0)), some (.ref (r1)), some (.int (x2 + 1))] [] u2 Q X) ∧ (¬ (v1 ≤ 0) → (q_id 116 2 r1) ∧ (q_id 116 14 (r1 + 8)) ∧ (vp_in x2 (q_sh (r1 + 8)).2) ∧ Q (some (.int (u2.1 (r1 + 8) (Int32.toNatClampNeg x2)))) u2)) X)
theorem xX6_firstDue_0 {d : Nat} {o0 : Nat} {r1 : Nat} {w : q_Sm} {Q : s_Po} {X : s_Xo} (h : vX6_firstDue_0 d o0 r1 w Q X) : s_Ex (d + 1) 0 mX6_firstDue 0 [some (.ref (o0)), some (.ref (r1)), none] [] w Q X := by
  unfold vX6_firstDue_0 at h
  refine s_blk [(.iconst 0, 1, 0, 0), (.istore_n 2, 1, 0, 0)] 2 [some (.ref (o0)), some (.ref (r1)), some (.int (0))] [] w [] (by decide +kernel) (by refine qt_iconst qc_0 ?_; refine qt_istore_n (L' := [some (.ref (o0)), some (.ref (r1)), some (.int (0))]) rfl ?_; exact qt_z rfl rfl rfl rfl rfl) trivial ?_
  exact h
theorem xX6_firstDue_2 {d : Nat} {o0 : Nat} {r1 : Nat} {x2 : Int32} {w : q_Sm} {Q : s_Po} {X : s_Xo} (h : vX6_firstDue_2 d o0 r1 x2 w Q X) : s_Ex (d + 1) 0 mX6_firstDue 2 [some (.ref (o0)), some (.ref (r1)), some (.int (x2))] [] w Q X := by
  unfold vX6_firstDue_2 at h
  obtain ⟨ho9, h⟩ := h
  refine s_blk [(.iload_n 2, 1, 0, 0), (.aload_n 1, 1, 0, 0), (.getfield 21, 3, 2, 3)] 7 [some (.ref (o0)), some (.ref (r1)), some (.int (x2))] [.int (w.1 r1 3), .int (x2)] w [q_id 116 2 r1] (by decide +kernel) (by refine qt_iload_n (x := x2) rfl ?_; refine qt_aload_n (r := r1) rfl ?_; refine qt_getI rfl ?_; exact qt_z rfl rfl rfl rfl rfl) ho9 ?_
  refine s_icmp (cd := .ge) (off := 29) 36 (by decide +kernel) (by decide) (fun hc => ?_) (fun hc => ?_)
  · replace h := h.1 hc
    refine s_blk [(.iconst (-1), 1, 0, 0)] 37 [some (.ref (o0)), some (.ref (r1)), some (.int (x2))] [.int (-1)] w [] (by decide +kernel) (by refine qt_iconst qc_m1 ?_; exact qt_z rfl rfl rfl rfl rfl) trivial ?_
    exact s_retI .int (by decide +kernel) rfl rfl h
  · replace h := h.2 hc
    obtain ⟨ho6, h⟩ := h
    obtain ⟨ho7, h⟩ := h
    obtain ⟨ho8, h⟩ := h
    refine s_blk [(.aload_n 0, 1, 0, 0), (.aload_n 1, 1, 0, 0), (.getfield 85, 3, 2, 9), (.iload_n 2, 1, 0, 0), (.iaload, 1, 0, 0)] 17 [some (.ref (o0)), some (.ref (r1)), some (.int (x2))] [.int (w.1 (r1 + 8) (Int32.toNatClampNeg x2)), .ref (o0)] w [q_id 116 2 r1, q_id 116 14 (r1 + 8), vp_in x2 (q_sh (r1 + 8)).2] (by decide +kernel) (by refine qt_aload_n (r := o0) rfl ?_; refine qt_aload_n (r := r1) rfl ?_; refine qt_getR (r := r1 + 8) rfl rfl ?_; refine qt_iload_n (x := x2) rfl ?_; refine qt_iald ?_; exact qt_z rfl rfl rfl rfl rfl) ⟨ho6, ho7, ho8⟩ ?_
    obtain ⟨hid, h⟩ := h
    refine s_callV (a := 0) (a' := 0) (As := [.int (w.1 (r1 + 8) (Int32.toNatClampNeg x2))]) (id := o0) (st := []) kX6_owed l_6_46 (by decide +kernel) hid rfl (Nat.le_of_ble_eq_true rfl) (s_mono h (s_I_of (fun v1 u2 h => ?_)) (fun _ _ h9 => h9))
    show s_Ex (d + 1) 0 mX6_firstDue 20 [some (.ref (o0)), some (.ref (r1)), some (.int (x2))] [.int (v1)] u2 Q X
    refine s_if (cd := .le) (off := 10) 30 (by decide +kernel) (by decide) (fun hc => ?_) (fun hc => ?_)
    · replace h := h.1 hc
      refine s_blk [(.iinc 2 1, 3, 0, 0), (.goto (-31), 3, 2, 0)] 2 [some (.ref (o0)), some (.ref (r1)), some (.int (x2 + 1))] [] u2 [] (by decide +kernel) (by refine qt_iinc (x := x2) (L' := [some (.ref (o0)), some (.ref (r1)), some (.int (x2 + 1))]) rfl qc_1 rfl ?_; refine qt_goto ?_; exact qt_z rfl rfl rfl rfl rfl) trivial ?_
      exact h
    · replace h := h.2 hc
      obtain ⟨ho3, h⟩ := h
      obtain ⟨ho4, h⟩ := h
      obtain ⟨ho5, h⟩ := h
      refine s_blk [(.aload_n 1, 1, 0, 0), (.getfield 85, 3, 2, 9), (.iload_n 2, 1, 0, 0), (.iaload, 1, 0, 0)] 29 [some (.ref (o0)), some (.ref (r1)), some (.int (x2))] [.int (u2.1 (r1 + 8) (Int32.toNatClampNeg x2))] u2 [q_id 116 2 r1, q_id 116 14 (r1 + 8), vp_in x2 (q_sh (r1 + 8)).2] (by decide +kernel) (by refine qt_aload_n (r := r1) rfl ?_; refine qt_getR (r := r1 + 8) rfl rfl ?_; refine qt_iload_n (x := x2) rfl ?_; refine qt_iald ?_; exact qt_z rfl rfl rfl rfl rfl) ⟨ho3, ho4, ho5⟩ ?_
      exact s_retI .int (by decide +kernel) rfl rfl h
theorem eX6_firstDue {d : Nat} {o0 : Nat} {r1 : Nat} {w : q_Sm} {Q : s_Po} {X : s_Xo} (h : vX6_firstDue_0 d o0 r1 w Q X) : s_Ev (d + 1) 0 mX6_firstDue w [.ref (o0), .ref (r1)] Q X := s_of (by decide) rfl (Nat.le_of_ble_eq_true rfl) (xX6_firstDue_0 h)
def vX6_owedInAll_0 (d : Nat) (o0 : Nat) (r1 : Nat) (w : q_Sm) (Q : s_Po) (X : s_Xo) : Prop := s_Ex (d + 1) 0 mX6_owedInAll 4 [some (.ref (o0)), some (.ref (r1)), some (.int (0)), some (.int (0))] [] w Q X
def vX6_owedInAll_4 (d : Nat) (o0 : Nat) (r1 : Nat) (x2 : Int32) (x3 : Int32) (w : q_Sm) (Q : s_Po) (X : s_Xo) : Prop := (q_id 116 2 r1) ∧ (((w.1 r1 3) ≤ x3) → Q (some (.int (x2))) w) ∧ (¬ ((w.1 r1 3) ≤ x3) → q_id 116 6 o0 ∧ s_EvI d 0 mX6_owed w [.ref (o0), .int (x3)] (fun v1 u2 => s_Ex (d + 1) 0 mX6_owedInAll 4 [some (.ref (o0)), some (.ref (r1)), some (.int (x2 + v1)), some (.int (x3 + 1))] [] u2 Q X) X)
theorem xX6_owedInAll_0 {d : Nat} {o0 : Nat} {r1 : Nat} {w : q_Sm} {Q : s_Po} {X : s_Xo} (h : vX6_owedInAll_0 d o0 r1 w Q X) : s_Ex (d + 1) 0 mX6_owedInAll 0 [some (.ref (o0)), some (.ref (r1)), none, none] [] w Q X := by
  unfold vX6_owedInAll_0 at h
  refine s_blk [(.iconst 0, 1, 0, 0), (.istore_n 2, 1, 0, 0), (.iconst 0, 1, 0, 0), (.istore_n 3, 1, 0, 0)] 4 [some (.ref (o0)), some (.ref (r1)), some (.int (0)), some (.int (0))] [] w [] (by decide +kernel) (by refine qt_iconst qc_0 ?_; refine qt_istore_n (L' := [some (.ref (o0)), some (.ref (r1)), some (.int (0)), none]) rfl ?_; refine qt_iconst qc_0 ?_; refine qt_istore_n (L' := [some (.ref (o0)), some (.ref (r1)), some (.int (0)), some (.int (0))]) rfl ?_; exact qt_z rfl rfl rfl rfl rfl) trivial ?_
  exact h
theorem xX6_owedInAll_4 {d : Nat} {o0 : Nat} {r1 : Nat} {x2 : Int32} {x3 : Int32} {w : q_Sm} {Q : s_Po} {X : s_Xo} (h : vX6_owedInAll_4 d o0 r1 x2 x3 w Q X) : s_Ex (d + 1) 0 mX6_owedInAll 4 [some (.ref (o0)), some (.ref (r1)), some (.int (x2)), some (.int (x3))] [] w Q X := by
  unfold vX6_owedInAll_4 at h
  obtain ⟨ho3, h⟩ := h
  refine s_blk [(.iload_n 3, 1, 0, 0), (.aload_n 1, 1, 0, 0), (.getfield 21, 3, 2, 3)] 9 [some (.ref (o0)), some (.ref (r1)), some (.int (x2)), some (.int (x3))] [.int (w.1 r1 3), .int (x3)] w [q_id 116 2 r1] (by decide +kernel) (by refine qt_iload_n (x := x3) rfl ?_; refine qt_aload_n (r := r1) rfl ?_; refine qt_getI rfl ?_; exact qt_z rfl rfl rfl rfl rfl) ho3 ?_
  refine s_icmp (cd := .ge) (off := 17) 26 (by decide +kernel) (by decide) (fun hc => ?_) (fun hc => ?_)
  · replace h := h.1 hc
    refine s_blk [(.iload_n 2, 1, 0, 0)] 27 [some (.ref (o0)), some (.ref (r1)), some (.int (x2)), some (.int (x3))] [.int (x2)] w [] (by decide +kernel) (by refine qt_iload_n (x := x2) rfl ?_; exact qt_z rfl rfl rfl rfl rfl) trivial ?_
    exact s_retI .int (by decide +kernel) rfl rfl h
  · replace h := h.2 hc
    refine s_blk [(.iload_n 2, 1, 0, 0), (.aload_n 0, 1, 0, 0), (.iload_n 3, 1, 0, 0)] 15 [some (.ref (o0)), some (.ref (r1)), some (.int (x2)), some (.int (x3))] [.int (x3), .ref (o0), .int (x2)] w [] (by decide +kernel) (by refine qt_iload_n (x := x2) rfl ?_; refine qt_aload_n (r := o0) rfl ?_; refine qt_iload_n (x := x3) rfl ?_; exact qt_z rfl rfl rfl rfl rfl) trivial ?_
    obtain ⟨hid, h⟩ := h
    refine s_callV (a := 0) (a' := 0) (As := [.int (x3)]) (id := o0) (st := [.int (x2)]) kX6_owed l_6_46 (by decide +kernel) hid rfl (Nat.le_of_ble_eq_true rfl) (s_mono h (s_I_of (fun v1 u2 h => ?_)) (fun _ _ h9 => h9))
    show s_Ex (d + 1) 0 mX6_owedInAll 18 [some (.ref (o0)), some (.ref (r1)), some (.int (x2)), some (.int (x3))] [.int (v1), .int (x2)] u2 Q X
    refine s_blk [(.iadd, 1, 0, 0), (.istore_n 2, 1, 0, 0), (.iinc 3 1, 3, 0, 0), (.goto (-19), 3, 4, 0)] 4 [some (.ref (o0)), some (.ref (r1)), some (.int (x2 + v1)), some (.int (x3 + 1))] [] u2 [] (by decide +kernel) (by refine qt_iadd ?_; refine qt_istore_n (L' := [some (.ref (o0)), some (.ref (r1)), some (.int (x2 + v1)), some (.int (x3))]) rfl ?_; refine qt_iinc (x := x3) (L' := [some (.ref (o0)), some (.ref (r1)), some (.int (x2 + v1)), some (.int (x3 + 1))]) rfl qc_1 rfl ?_; refine qt_goto ?_; exact qt_z rfl rfl rfl rfl rfl) trivial ?_
    exact h
theorem eX6_owedInAll {d : Nat} {o0 : Nat} {r1 : Nat} {w : q_Sm} {Q : s_Po} {X : s_Xo} (h : vX6_owedInAll_0 d o0 r1 w Q X) : s_Ev (d + 1) 0 mX6_owedInAll w [.ref (o0), .ref (r1)] Q X := s_of (by decide) rfl (Nat.le_of_ble_eq_true rfl) (xX6_owedInAll_0 h)
def vX6_inDefault_0 (d : Nat) (o0 : Nat) (r1 : Nat) (w : q_Sm) (Q : s_Po) (X : s_Xo) : Prop := s_Ex (d + 1) 0 mX6_inDefault 4 [some (.ref (o0)), some (.ref (r1)), some (.int (0)), some (.int (0))] [] w Q X
def vX6_inDefault_4 (d : Nat) (o0 : Nat) (r1 : Nat) (x2 : Int32) (x3 : Int32) (w : q_Sm) (Q : s_Po) (X : s_Xo) : Prop := (q_id 116 2 r1) ∧ (((w.1 r1 3) ≤ x3) → Q (some (.int (x2))) w) ∧ (¬ ((w.1 r1 3) ≤ x3) → q_id 116 6 o0 ∧ s_EvI d 0 mX6_defaulted w [.ref (o0), .int (x3)] (fun v1 u2 => s_Ex (d + 1) 0 mX6_inDefault 4 [some (.ref (o0)), some (.ref (r1)), some (.int (x2 + v1)), some (.int (x3 + 1))] [] u2 Q X) X)
theorem xX6_inDefault_0 {d : Nat} {o0 : Nat} {r1 : Nat} {w : q_Sm} {Q : s_Po} {X : s_Xo} (h : vX6_inDefault_0 d o0 r1 w Q X) : s_Ex (d + 1) 0 mX6_inDefault 0 [some (.ref (o0)), some (.ref (r1)), none, none] [] w Q X := by
  unfold vX6_inDefault_0 at h
  refine s_blk [(.iconst 0, 1, 0, 0), (.istore_n 2, 1, 0, 0), (.iconst 0, 1, 0, 0), (.istore_n 3, 1, 0, 0)] 4 [some (.ref (o0)), some (.ref (r1)), some (.int (0)), some (.int (0))] [] w [] (by decide +kernel) (by refine qt_iconst qc_0 ?_; refine qt_istore_n (L' := [some (.ref (o0)), some (.ref (r1)), some (.int (0)), none]) rfl ?_; refine qt_iconst qc_0 ?_; refine qt_istore_n (L' := [some (.ref (o0)), some (.ref (r1)), some (.int (0)), some (.int (0))]) rfl ?_; exact qt_z rfl rfl rfl rfl rfl) trivial ?_
  exact h
theorem xX6_inDefault_4 {d : Nat} {o0 : Nat} {r1 : Nat} {x2 : Int32} {x3 : Int32} {w : q_Sm} {Q : s_Po} {X : s_Xo} (h : vX6_inDefault_4 d o0 r1 x2 x3 w Q X) : s_Ex (d + 1) 0 mX6_inDefault 4 [some (.ref (o0)), some (.ref (r1)), some (.int (x2)), some (.int (x3))] [] w Q X := by
  unfold vX6_inDefault_4 at h
  obtain ⟨ho3, h⟩ := h
  refine s_blk [(.iload_n 3, 1, 0, 0), (.aload_n 1, 1, 0, 0), (.getfield 21, 3, 2, 3)] 9 [some (.ref (o0)), some (.ref (r1)), some (.int (x2)), some (.int (x3))] [.int (w.1 r1 3), .int (x3)] w [q_id 116 2 r1] (by decide +kernel) (by refine qt_iload_n (x := x3) rfl ?_; refine qt_aload_n (r := r1) rfl ?_; refine qt_getI rfl ?_; exact qt_z rfl rfl rfl rfl rfl) ho3 ?_
  refine s_icmp (cd := .ge) (off := 17) 26 (by decide +kernel) (by decide) (fun hc => ?_) (fun hc => ?_)
  · replace h := h.1 hc
    refine s_blk [(.iload_n 2, 1, 0, 0)] 27 [some (.ref (o0)), some (.ref (r1)), some (.int (x2)), some (.int (x3))] [.int (x2)] w [] (by decide +kernel) (by refine qt_iload_n (x := x2) rfl ?_; exact qt_z rfl rfl rfl rfl rfl) trivial ?_
    exact s_retI .int (by decide +kernel) rfl rfl h
  · replace h := h.2 hc
    refine s_blk [(.iload_n 2, 1, 0, 0), (.aload_n 0, 1, 0, 0), (.iload_n 3, 1, 0, 0)] 15 [some (.ref (o0)), some (.ref (r1)), some (.int (x2)), some (.int (x3))] [.int (x3), .ref (o0), .int (x2)] w [] (by decide +kernel) (by refine qt_iload_n (x := x2) rfl ?_; refine qt_aload_n (r := o0) rfl ?_; refine qt_iload_n (x := x3) rfl ?_; exact qt_z rfl rfl rfl rfl rfl) trivial ?_
    obtain ⟨hid, h⟩ := h
    refine s_callV (a := 0) (a' := 0) (As := [.int (x3)]) (id := o0) (st := [.int (x2)]) kX6_defaulted l_6_107 (by decide +kernel) hid rfl (Nat.le_of_ble_eq_true rfl) (s_mono h (s_I_of (fun v1 u2 h => ?_)) (fun _ _ h9 => h9))
    show s_Ex (d + 1) 0 mX6_inDefault 18 [some (.ref (o0)), some (.ref (r1)), some (.int (x2)), some (.int (x3))] [.int (v1), .int (x2)] u2 Q X
    refine s_blk [(.iadd, 1, 0, 0), (.istore_n 2, 1, 0, 0), (.iinc 3 1, 3, 0, 0), (.goto (-19), 3, 4, 0)] 4 [some (.ref (o0)), some (.ref (r1)), some (.int (x2 + v1)), some (.int (x3 + 1))] [] u2 [] (by decide +kernel) (by refine qt_iadd ?_; refine qt_istore_n (L' := [some (.ref (o0)), some (.ref (r1)), some (.int (x2 + v1)), some (.int (x3))]) rfl ?_; refine qt_iinc (x := x3) (L' := [some (.ref (o0)), some (.ref (r1)), some (.int (x2 + v1)), some (.int (x3 + 1))]) rfl qc_1 rfl ?_; refine qt_goto ?_; exact qt_z rfl rfl rfl rfl rfl) trivial ?_
    exact h
theorem eX6_inDefault {d : Nat} {o0 : Nat} {r1 : Nat} {w : q_Sm} {Q : s_Po} {X : s_Xo} (h : vX6_inDefault_0 d o0 r1 w Q X) : s_Ev (d + 1) 0 mX6_inDefault w [.ref (o0), .ref (r1)] Q X := s_of (by decide) rfl (Nat.le_of_ble_eq_true rfl) (xX6_inDefault_0 h)
def vX6_debtsTo_0 (d : Nat) (o0 : Nat) (r1 : Nat) (x2 : Int32) (w : q_Sm) (Q : s_Po) (X : s_Xo) : Prop := s_Ex (d + 1) 0 mX6_debtsTo 5 [some (.ref (o0)), some (.ref (r1)), some (.int (x2)), some (.int (0)), some (.int (0))] [] w Q X
def vX6_debtsTo_5 (d : Nat) (o0 : Nat) (r1 : Nat) (x2 : Int32) (x3 : Int32) (x4 : Int32) (w : q_Sm) (Q : s_Po) (X : s_Xo) : Prop := (q_id 116 2 r1) ∧ (((w.1 r1 3) ≤ x4) → Q (some (.int (x3))) w) ∧ (¬ ((w.1 r1 3) ≤ x4) → q_id 116 6 o0 ∧ s_EvI d 0 mX6_holder w [.ref (o0), .int (x4)] (fun v1 u2 => ((¬ v1 = x2) → s_Ex (d + 1) 0 mX6_debtsTo 5 [some (.ref (o0)), some (.ref (r1)), some (.int (x2)), some (.int (x3)), some (.int (x4 + 1))] [] u2 Q X) ∧ (¬ (¬ v1 = x2) → q_id 116 6 o0 ∧ s_EvI d 0 mX6_owed u2 [.ref (o0), .int (x4)] (fun v3 u4 => ((v3 ≤ 0) → s_Ex (d + 1) 0 mX6_debtsTo 5 [some (.ref (o0)), some (.ref (r1)), some (.int (x2)), some (.int (x3)), some (.int (x4 + 1))] [] u4 Q X) ∧ (¬ (v3 ≤ 0) → s_Ex (d + 1) 0 mX6_debtsTo 5 [some (.ref (o0)), some (.ref (r1)), some (.int (x2)), some (.int (x3 + 1)), some (.int (x4 + 1))] [] u4 Q X)) X)) X)
theorem xX6_debtsTo_0 {d : Nat} {o0 : Nat} {r1 : Nat} {x2 : Int32} {w : q_Sm} {Q : s_Po} {X : s_Xo} (h : vX6_debtsTo_0 d o0 r1 x2 w Q X) : s_Ex (d + 1) 0 mX6_debtsTo 0 [some (.ref (o0)), some (.ref (r1)), some (.int (x2)), none, none] [] w Q X := by
  unfold vX6_debtsTo_0 at h
  refine s_blk [(.iconst 0, 1, 0, 0), (.istore_n 3, 1, 0, 0), (.iconst 0, 1, 0, 0), (.istore 4, 2, 0, 0)] 5 [some (.ref (o0)), some (.ref (r1)), some (.int (x2)), some (.int (0)), some (.int (0))] [] w [] (by decide +kernel) (by refine qt_iconst qc_0 ?_; refine qt_istore_n (L' := [some (.ref (o0)), some (.ref (r1)), some (.int (x2)), some (.int (0)), none]) rfl ?_; refine qt_iconst qc_0 ?_; refine qt_istore (L' := [some (.ref (o0)), some (.ref (r1)), some (.int (x2)), some (.int (0)), some (.int (0))]) rfl ?_; exact qt_z rfl rfl rfl rfl rfl) trivial ?_
  exact h
theorem xX6_debtsTo_5 {d : Nat} {o0 : Nat} {r1 : Nat} {x2 : Int32} {x3 : Int32} {x4 : Int32} {w : q_Sm} {Q : s_Po} {X : s_Xo} (h : vX6_debtsTo_5 d o0 r1 x2 x3 x4 w Q X) : s_Ex (d + 1) 0 mX6_debtsTo 5 [some (.ref (o0)), some (.ref (r1)), some (.int (x2)), some (.int (x3)), some (.int (x4))] [] w Q X := by
  unfold vX6_debtsTo_5 at h
  obtain ⟨ho5, h⟩ := h
  refine s_blk [(.iload 4, 2, 0, 0), (.aload_n 1, 1, 0, 0), (.getfield 21, 3, 2, 3)] 11 [some (.ref (o0)), some (.ref (r1)), some (.int (x2)), some (.int (x3)), some (.int (x4))] [.int (w.1 r1 3), .int (x4)] w [q_id 116 2 r1] (by decide +kernel) (by refine qt_iload (x := x4) rfl ?_; refine qt_aload_n (r := r1) rfl ?_; refine qt_getI rfl ?_; exact qt_z rfl rfl rfl rfl rfl) ho5 ?_
  refine s_icmp (cd := .ge) (off := 31) 42 (by decide +kernel) (by decide) (fun hc => ?_) (fun hc => ?_)
  · replace h := h.1 hc
    refine s_blk [(.iload_n 3, 1, 0, 0)] 43 [some (.ref (o0)), some (.ref (r1)), some (.int (x2)), some (.int (x3)), some (.int (x4))] [.int (x3)] w [] (by decide +kernel) (by refine qt_iload_n (x := x3) rfl ?_; exact qt_z rfl rfl rfl rfl rfl) trivial ?_
    exact s_retI .int (by decide +kernel) rfl rfl h
  · replace h := h.2 hc
    refine s_blk [(.aload_n 0, 1, 0, 0), (.iload 4, 2, 0, 0)] 17 [some (.ref (o0)), some (.ref (r1)), some (.int (x2)), some (.int (x3)), some (.int (x4))] [.int (x4), .ref (o0)] w [] (by decide +kernel) (by refine qt_aload_n (r := o0) rfl ?_; refine qt_iload (x := x4) rfl ?_; exact qt_z rfl rfl rfl rfl rfl) trivial ?_
    obtain ⟨hid, h⟩ := h
    refine s_callV (a := 0) (a' := 0) (As := [.int (x4)]) (id := o0) (st := []) kX6_holder l_6_59 (by decide +kernel) hid rfl (Nat.le_of_ble_eq_true rfl) (s_mono h (s_I_of (fun v1 u2 h => ?_)) (fun _ _ h9 => h9))
    show s_Ex (d + 1) 0 mX6_debtsTo 20 [some (.ref (o0)), some (.ref (r1)), some (.int (x2)), some (.int (x3)), some (.int (x4))] [.int (v1)] u2 Q X
    refine s_blk [(.iload_n 2, 1, 0, 0)] 21 [some (.ref (o0)), some (.ref (r1)), some (.int (x2)), some (.int (x3)), some (.int (x4))] [.int (x2), .int (v1)] u2 [] (by decide +kernel) (by refine qt_iload_n (x := x2) rfl ?_; exact qt_z rfl rfl rfl rfl rfl) trivial ?_
    refine s_icmp (cd := .ne) (off := 15) 36 (by decide +kernel) (by decide) (fun hc => ?_) (fun hc => ?_)
    · replace h := h.1 hc
      refine s_blk [(.iinc 4 1, 3, 0, 0), (.goto (-34), 3, 5, 0)] 5 [some (.ref (o0)), some (.ref (r1)), some (.int (x2)), some (.int (x3)), some (.int (x4 + 1))] [] u2 [] (by decide +kernel) (by refine qt_iinc (x := x4) (L' := [some (.ref (o0)), some (.ref (r1)), some (.int (x2)), some (.int (x3)), some (.int (x4 + 1))]) rfl qc_1 rfl ?_; refine qt_goto ?_; exact qt_z rfl rfl rfl rfl rfl) trivial ?_
      exact h
    · replace h := h.2 hc
      refine s_blk [(.aload_n 0, 1, 0, 0), (.iload 4, 2, 0, 0)] 27 [some (.ref (o0)), some (.ref (r1)), some (.int (x2)), some (.int (x3)), some (.int (x4))] [.int (x4), .ref (o0)] u2 [] (by decide +kernel) (by refine qt_aload_n (r := o0) rfl ?_; refine qt_iload (x := x4) rfl ?_; exact qt_z rfl rfl rfl rfl rfl) trivial ?_
      obtain ⟨hid, h⟩ := h
      refine s_callV (a := 0) (a' := 0) (As := [.int (x4)]) (id := o0) (st := []) kX6_owed l_6_46 (by decide +kernel) hid rfl (Nat.le_of_ble_eq_true rfl) (s_mono h (s_I_of (fun v3 u4 h => ?_)) (fun _ _ h9 => h9))
      show s_Ex (d + 1) 0 mX6_debtsTo 30 [some (.ref (o0)), some (.ref (r1)), some (.int (x2)), some (.int (x3)), some (.int (x4))] [.int (v3)] u4 Q X
      refine s_if (cd := .le) (off := 6) 36 (by decide +kernel) (by decide) (fun hc => ?_) (fun hc => ?_)
      · replace h := h.1 hc
        refine s_blk [(.iinc 4 1, 3, 0, 0), (.goto (-34), 3, 5, 0)] 5 [some (.ref (o0)), some (.ref (r1)), some (.int (x2)), some (.int (x3)), some (.int (x4 + 1))] [] u4 [] (by decide +kernel) (by refine qt_iinc (x := x4) (L' := [some (.ref (o0)), some (.ref (r1)), some (.int (x2)), some (.int (x3)), some (.int (x4 + 1))]) rfl qc_1 rfl ?_; refine qt_goto ?_; exact qt_z rfl rfl rfl rfl rfl) trivial ?_
        exact h
      · replace h := h.2 hc
        refine s_blk [(.iinc 3 1, 3, 0, 0), (.iinc 4 1, 3, 0, 0), (.goto (-34), 3, 5, 0)] 5 [some (.ref (o0)), some (.ref (r1)), some (.int (x2)), some (.int (x3 + 1)), some (.int (x4 + 1))] [] u4 [] (by decide +kernel) (by refine qt_iinc (x := x3) (L' := [some (.ref (o0)), some (.ref (r1)), some (.int (x2)), some (.int (x3 + 1)), some (.int (x4))]) rfl qc_1 rfl ?_; refine qt_iinc (x := x4) (L' := [some (.ref (o0)), some (.ref (r1)), some (.int (x2)), some (.int (x3 + 1)), some (.int (x4 + 1))]) rfl qc_1 rfl ?_; refine qt_goto ?_; exact qt_z rfl rfl rfl rfl rfl) trivial ?_
        exact h
theorem eX6_debtsTo {d : Nat} {o0 : Nat} {r1 : Nat} {x2 : Int32} {w : q_Sm} {Q : s_Po} {X : s_Xo} (h : vX6_debtsTo_0 d o0 r1 x2 w Q X) : s_Ev (d + 1) 0 mX6_debtsTo w [.ref (o0), .ref (r1), .int (x2)] Q X := s_of (by decide) rfl (Nat.le_of_ble_eq_true rfl) (xX6_debtsTo_0 h)
def vX6_owedTo_0 (d : Nat) (o0 : Nat) (r1 : Nat) (x2 : Int32) (w : q_Sm) (Q : s_Po) (X : s_Xo) : Prop := s_Ex (d + 1) 0 mX6_owedTo 5 [some (.ref (o0)), some (.ref (r1)), some (.int (x2)), some (.int (0)), some (.int (0))] [] w Q X
def vX6_owedTo_5 (d : Nat) (o0 : Nat) (r1 : Nat) (x2 : Int32) (x3 : Int32) (x4 : Int32) (w : q_Sm) (Q : s_Po) (X : s_Xo) : Prop := ((4 ≤ x4) → Q (some (.int (x3))) w) ∧ (¬ (4 ≤ x4) → q_id 116 6 o0 ∧ s_EvI d 0 mX6_claim w [.ref (o0), .ref (r1), .int (x2), .int (x4)] (fun v1 u2 => s_Ex (d + 1) 0 mX6_owedTo 5 [some (.ref (o0)), some (.ref (r1)), some (.int (x2)), some (.int (x3 + v1)), some (.int (x4 + 1))] [] u2 Q X) X)
theorem xX6_owedTo_0 {d : Nat} {o0 : Nat} {r1 : Nat} {x2 : Int32} {w : q_Sm} {Q : s_Po} {X : s_Xo} (h : vX6_owedTo_0 d o0 r1 x2 w Q X) : s_Ex (d + 1) 0 mX6_owedTo 0 [some (.ref (o0)), some (.ref (r1)), some (.int (x2)), none, none] [] w Q X := by
  unfold vX6_owedTo_0 at h
  refine s_blk [(.iconst 0, 1, 0, 0), (.istore_n 3, 1, 0, 0), (.iconst 0, 1, 0, 0), (.istore 4, 2, 0, 0)] 5 [some (.ref (o0)), some (.ref (r1)), some (.int (x2)), some (.int (0)), some (.int (0))] [] w [] (by decide +kernel) (by refine qt_iconst qc_0 ?_; refine qt_istore_n (L' := [some (.ref (o0)), some (.ref (r1)), some (.int (x2)), some (.int (0)), none]) rfl ?_; refine qt_iconst qc_0 ?_; refine qt_istore (L' := [some (.ref (o0)), some (.ref (r1)), some (.int (x2)), some (.int (0)), some (.int (0))]) rfl ?_; exact qt_z rfl rfl rfl rfl rfl) trivial ?_
  exact h
theorem xX6_owedTo_5 {d : Nat} {o0 : Nat} {r1 : Nat} {x2 : Int32} {x3 : Int32} {x4 : Int32} {w : q_Sm} {Q : s_Po} {X : s_Xo} (h : vX6_owedTo_5 d o0 r1 x2 x3 x4 w Q X) : s_Ex (d + 1) 0 mX6_owedTo 5 [some (.ref (o0)), some (.ref (r1)), some (.int (x2)), some (.int (x3)), some (.int (x4))] [] w Q X := by
  unfold vX6_owedTo_5 at h
  refine s_blk [(.iload 4, 2, 0, 0), (.iconst 4, 1, 0, 0)] 8 [some (.ref (o0)), some (.ref (r1)), some (.int (x2)), some (.int (x3)), some (.int (x4))] [.int (4), .int (x4)] w [] (by decide +kernel) (by refine qt_iload (x := x4) rfl ?_; refine qt_iconst qc_4 ?_; exact qt_z rfl rfl rfl rfl rfl) trivial ?_
  refine s_icmp (cd := .ge) (off := 20) 28 (by decide +kernel) (by decide) (fun hc => ?_) (fun hc => ?_)
  · replace h := h.1 hc
    refine s_blk [(.iload_n 3, 1, 0, 0)] 29 [some (.ref (o0)), some (.ref (r1)), some (.int (x2)), some (.int (x3)), some (.int (x4))] [.int (x3)] w [] (by decide +kernel) (by refine qt_iload_n (x := x3) rfl ?_; exact qt_z rfl rfl rfl rfl rfl) trivial ?_
    exact s_retI .int (by decide +kernel) rfl rfl h
  · replace h := h.2 hc
    refine s_blk [(.iload_n 3, 1, 0, 0), (.aload_n 0, 1, 0, 0), (.aload_n 1, 1, 0, 0), (.iload_n 2, 1, 0, 0), (.iload 4, 2, 0, 0)] 17 [some (.ref (o0)), some (.ref (r1)), some (.int (x2)), some (.int (x3)), some (.int (x4))] [.int (x4), .int (x2), .ref (r1), .ref (o0), .int (x3)] w [] (by decide +kernel) (by refine qt_iload_n (x := x3) rfl ?_; refine qt_aload_n (r := o0) rfl ?_; refine qt_aload_n (r := r1) rfl ?_; refine qt_iload_n (x := x2) rfl ?_; refine qt_iload (x := x4) rfl ?_; exact qt_z rfl rfl rfl rfl rfl) trivial ?_
    obtain ⟨hid, h⟩ := h
    refine s_callV (a := 0) (a' := 0) (As := [.ref (r1), .int (x2), .int (x4)]) (id := o0) (st := [.int (x3)]) kX6_claim l_6_110 (by decide +kernel) hid rfl (Nat.le_of_ble_eq_true rfl) (s_mono h (s_I_of (fun v1 u2 h => ?_)) (fun _ _ h9 => h9))
    show s_Ex (d + 1) 0 mX6_owedTo 20 [some (.ref (o0)), some (.ref (r1)), some (.int (x2)), some (.int (x3)), some (.int (x4))] [.int (v1), .int (x3)] u2 Q X
    refine s_blk [(.iadd, 1, 0, 0), (.istore_n 3, 1, 0, 0), (.iinc 4 1, 3, 0, 0), (.goto (-20), 3, 5, 0)] 5 [some (.ref (o0)), some (.ref (r1)), some (.int (x2)), some (.int (x3 + v1)), some (.int (x4 + 1))] [] u2 [] (by decide +kernel) (by refine qt_iadd ?_; refine qt_istore_n (L' := [some (.ref (o0)), some (.ref (r1)), some (.int (x2)), some (.int (x3 + v1)), some (.int (x4))]) rfl ?_; refine qt_iinc (x := x4) (L' := [some (.ref (o0)), some (.ref (r1)), some (.int (x2)), some (.int (x3 + v1)), some (.int (x4 + 1))]) rfl qc_1 rfl ?_; refine qt_goto ?_; exact qt_z rfl rfl rfl rfl rfl) trivial ?_
    exact h
theorem eX6_owedTo {d : Nat} {o0 : Nat} {r1 : Nat} {x2 : Int32} {w : q_Sm} {Q : s_Po} {X : s_Xo} (h : vX6_owedTo_0 d o0 r1 x2 w Q X) : s_Ev (d + 1) 0 mX6_owedTo w [.ref (o0), .ref (r1), .int (x2)] Q X := s_of (by decide) rfl (Nat.le_of_ble_eq_true rfl) (xX6_owedTo_0 h)
def vX6_claim_0 (d : Nat) (o0 : Nat) (r1 : Nat) (x2 : Int32) (x3 : Int32) (w : q_Sm) (Q : s_Po) (X : s_Xo) : Prop := s_Ex (d + 1) 0 mX6_claim 6 [some (.ref (o0)), some (.ref (r1)), some (.int (x2)), some (.int (x3)), some (.int (0)), some (.int (0))] [] w Q X
def vX6_claim_6 (d : Nat) (o0 : Nat) (r1 : Nat) (x2 : Int32) (x3 : Int32) (x4 : Int32) (x5 : Int32) (w : q_Sm) (Q : s_Po) (X : s_Xo) : Prop := (q_id 116 2 r1) ∧ (((w.1 r1 3) ≤ x5) → Q (some (.int (x4))) w) ∧ (¬ ((w.1 r1 3) ≤ x5) → q_id 116 6 o0 ∧ s_EvI d 0 mX6_holder w [.ref (o0), .int (x5)] (fun v1 u2 => ((¬ v1 = x2) → s_Ex (d + 1) 0 mX6_claim 6 [some (.ref (o0)), some (.ref (r1)), some (.int (x2)), some (.int (x3)), some (.int (x4)), some (.int (x5 + 1))] [] u2 Q X) ∧ (¬ (¬ v1 = x2) → (q_id 116 2 r1) ∧ (q_id 116 14 (r1 + 4)) ∧ (vp_in x5 (q_sh (r1 + 4)).2) ∧ ((¬ (u2.1 (r1 + 4) (Int32.toNatClampNeg x5)) = x3) → s_Ex (d + 1) 0 mX6_claim 6 [some (.ref (o0)), some (.ref (r1)), some (.int (x2)), some (.int (x3)), some (.int (x4)), some (.int (x5 + 1))] [] u2 Q X) ∧ (¬ (¬ (u2.1 (r1 + 4) (Int32.toNatClampNeg x5)) = x3) → q_id 116 6 o0 ∧ s_EvI d 0 mX6_owed u2 [.ref (o0), .int (x5)] (fun v3 u4 => s_Ex (d + 1) 0 mX6_claim 6 [some (.ref (o0)), some (.ref (r1)), some (.int (x2)), some (.int (x3)), some (.int (x4 + v3)), some (.int (x5 + 1))] [] u4 Q X) X))) X)
theorem xX6_claim_0 {d : Nat} {o0 : Nat} {r1 : Nat} {x2 : Int32} {x3 : Int32} {w : q_Sm} {Q : s_Po} {X : s_Xo} (h : vX6_claim_0 d o0 r1 x2 x3 w Q X) : s_Ex (d + 1) 0 mX6_claim 0 [some (.ref (o0)), some (.ref (r1)), some (.int (x2)), some (.int (x3)), none, none] [] w Q X := by
  unfold vX6_claim_0 at h
  refine s_blk [(.iconst 0, 1, 0, 0), (.istore 4, 2, 0, 0), (.iconst 0, 1, 0, 0), (.istore 5, 2, 0, 0)] 6 [some (.ref (o0)), some (.ref (r1)), some (.int (x2)), some (.int (x3)), some (.int (0)), some (.int (0))] [] w [] (by decide +kernel) (by refine qt_iconst qc_0 ?_; refine qt_istore (L' := [some (.ref (o0)), some (.ref (r1)), some (.int (x2)), some (.int (x3)), some (.int (0)), none]) rfl ?_; refine qt_iconst qc_0 ?_; refine qt_istore (L' := [some (.ref (o0)), some (.ref (r1)), some (.int (x2)), some (.int (x3)), some (.int (0)), some (.int (0))]) rfl ?_; exact qt_z rfl rfl rfl rfl rfl) trivial ?_
  exact h
theorem xX6_claim_6 {d : Nat} {o0 : Nat} {r1 : Nat} {x2 : Int32} {x3 : Int32} {x4 : Int32} {x5 : Int32} {w : q_Sm} {Q : s_Po} {X : s_Xo} (h : vX6_claim_6 d o0 r1 x2 x3 x4 x5 w Q X) : s_Ex (d + 1) 0 mX6_claim 6 [some (.ref (o0)), some (.ref (r1)), some (.int (x2)), some (.int (x3)), some (.int (x4)), some (.int (x5))] [] w Q X := by
  unfold vX6_claim_6 at h
  obtain ⟨ho8, h⟩ := h
  refine s_blk [(.iload 5, 2, 0, 0), (.aload_n 1, 1, 0, 0), (.getfield 21, 3, 2, 3)] 12 [some (.ref (o0)), some (.ref (r1)), some (.int (x2)), some (.int (x3)), some (.int (x4)), some (.int (x5))] [.int (w.1 r1 3), .int (x5)] w [q_id 116 2 r1] (by decide +kernel) (by refine qt_iload (x := x5) rfl ?_; refine qt_aload_n (r := r1) rfl ?_; refine qt_getI rfl ?_; exact qt_z rfl rfl rfl rfl rfl) ho8 ?_
  refine s_icmp (cd := .ge) (off := 41) 53 (by decide +kernel) (by decide) (fun hc => ?_) (fun hc => ?_)
  · replace h := h.1 hc
    refine s_blk [(.iload 4, 2, 0, 0)] 55 [some (.ref (o0)), some (.ref (r1)), some (.int (x2)), some (.int (x3)), some (.int (x4)), some (.int (x5))] [.int (x4)] w [] (by decide +kernel) (by refine qt_iload (x := x4) rfl ?_; exact qt_z rfl rfl rfl rfl rfl) trivial ?_
    exact s_retI .int (by decide +kernel) rfl rfl h
  · replace h := h.2 hc
    refine s_blk [(.aload_n 0, 1, 0, 0), (.iload 5, 2, 0, 0)] 18 [some (.ref (o0)), some (.ref (r1)), some (.int (x2)), some (.int (x3)), some (.int (x4)), some (.int (x5))] [.int (x5), .ref (o0)] w [] (by decide +kernel) (by refine qt_aload_n (r := o0) rfl ?_; refine qt_iload (x := x5) rfl ?_; exact qt_z rfl rfl rfl rfl rfl) trivial ?_
    obtain ⟨hid, h⟩ := h
    refine s_callV (a := 0) (a' := 0) (As := [.int (x5)]) (id := o0) (st := []) kX6_holder l_6_59 (by decide +kernel) hid rfl (Nat.le_of_ble_eq_true rfl) (s_mono h (s_I_of (fun v1 u2 h => ?_)) (fun _ _ h9 => h9))
    show s_Ex (d + 1) 0 mX6_claim 21 [some (.ref (o0)), some (.ref (r1)), some (.int (x2)), some (.int (x3)), some (.int (x4)), some (.int (x5))] [.int (v1)] u2 Q X
    refine s_blk [(.iload_n 2, 1, 0, 0)] 22 [some (.ref (o0)), some (.ref (r1)), some (.int (x2)), some (.int (x3)), some (.int (x4)), some (.int (x5))] [.int (x2), .int (v1)] u2 [] (by decide +kernel) (by refine qt_iload_n (x := x2) rfl ?_; exact qt_z rfl rfl rfl rfl rfl) trivial ?_
    refine s_icmp (cd := .ne) (off := 25) 47 (by decide +kernel) (by decide) (fun hc => ?_) (fun hc => ?_)
    · replace h := h.1 hc
      refine s_blk [(.iinc 5 1, 3, 0, 0), (.goto (-44), 3, 6, 0)] 6 [some (.ref (o0)), some (.ref (r1)), some (.int (x2)), some (.int (x3)), some (.int (x4)), some (.int (x5 + 1))] [] u2 [] (by decide +kernel) (by refine qt_iinc (x := x5) (L' := [some (.ref (o0)), some (.ref (r1)), some (.int (x2)), some (.int (x3)), some (.int (x4)), some (.int (x5 + 1))]) rfl qc_1 rfl ?_; refine qt_goto ?_; exact qt_z rfl rfl rfl rfl rfl) trivial ?_
      exact h
    · replace h := h.2 hc
      obtain ⟨ho5, h⟩ := h
      obtain ⟨ho6, h⟩ := h
      obtain ⟨ho7, h⟩ := h
      refine s_blk [(.aload_n 1, 1, 0, 0), (.getfield 43, 3, 2, 5), (.iload 5, 2, 0, 0), (.iaload, 1, 0, 0), (.iload_n 3, 1, 0, 0)] 33 [some (.ref (o0)), some (.ref (r1)), some (.int (x2)), some (.int (x3)), some (.int (x4)), some (.int (x5))] [.int (x3), .int (u2.1 (r1 + 4) (Int32.toNatClampNeg x5))] u2 [q_id 116 2 r1, q_id 116 14 (r1 + 4), vp_in x5 (q_sh (r1 + 4)).2] (by decide +kernel) (by refine qt_aload_n (r := r1) rfl ?_; refine qt_getR (r := r1 + 4) rfl rfl ?_; refine qt_iload (x := x5) rfl ?_; refine qt_iald ?_; refine qt_iload_n (x := x3) rfl ?_; exact qt_z rfl rfl rfl rfl rfl) ⟨ho5, ho6, ho7⟩ ?_
      refine s_icmp (cd := .ne) (off := 14) 47 (by decide +kernel) (by decide) (fun hc => ?_) (fun hc => ?_)
      · replace h := h.1 hc
        refine s_blk [(.iinc 5 1, 3, 0, 0), (.goto (-44), 3, 6, 0)] 6 [some (.ref (o0)), some (.ref (r1)), some (.int (x2)), some (.int (x3)), some (.int (x4)), some (.int (x5 + 1))] [] u2 [] (by decide +kernel) (by refine qt_iinc (x := x5) (L' := [some (.ref (o0)), some (.ref (r1)), some (.int (x2)), some (.int (x3)), some (.int (x4)), some (.int (x5 + 1))]) rfl qc_1 rfl ?_; refine qt_goto ?_; exact qt_z rfl rfl rfl rfl rfl) trivial ?_
        exact h
      · replace h := h.2 hc
        refine s_blk [(.iload 4, 2, 0, 0), (.aload_n 0, 1, 0, 0), (.iload 5, 2, 0, 0)] 41 [some (.ref (o0)), some (.ref (r1)), some (.int (x2)), some (.int (x3)), some (.int (x4)), some (.int (x5))] [.int (x5), .ref (o0), .int (x4)] u2 [] (by decide +kernel) (by refine qt_iload (x := x4) rfl ?_; refine qt_aload_n (r := o0) rfl ?_; refine qt_iload (x := x5) rfl ?_; exact qt_z rfl rfl rfl rfl rfl) trivial ?_
        obtain ⟨hid, h⟩ := h
        refine s_callV (a := 0) (a' := 0) (As := [.int (x5)]) (id := o0) (st := [.int (x4)]) kX6_owed l_6_46 (by decide +kernel) hid rfl (Nat.le_of_ble_eq_true rfl) (s_mono h (s_I_of (fun v3 u4 h => ?_)) (fun _ _ h9 => h9))
        show s_Ex (d + 1) 0 mX6_claim 44 [some (.ref (o0)), some (.ref (r1)), some (.int (x2)), some (.int (x3)), some (.int (x4)), some (.int (x5))] [.int (v3), .int (x4)] u4 Q X
        refine s_blk [(.iadd, 1, 0, 0), (.istore 4, 2, 0, 0), (.iinc 5 1, 3, 0, 0), (.goto (-44), 3, 6, 0)] 6 [some (.ref (o0)), some (.ref (r1)), some (.int (x2)), some (.int (x3)), some (.int (x4 + v3)), some (.int (x5 + 1))] [] u4 [] (by decide +kernel) (by refine qt_iadd ?_; refine qt_istore (L' := [some (.ref (o0)), some (.ref (r1)), some (.int (x2)), some (.int (x3)), some (.int (x4 + v3)), some (.int (x5))]) rfl ?_; refine qt_iinc (x := x5) (L' := [some (.ref (o0)), some (.ref (r1)), some (.int (x2)), some (.int (x3)), some (.int (x4 + v3)), some (.int (x5 + 1))]) rfl qc_1 rfl ?_; refine qt_goto ?_; exact qt_z rfl rfl rfl rfl rfl) trivial ?_
        exact h
theorem eX6_claim {d : Nat} {o0 : Nat} {r1 : Nat} {x2 : Int32} {x3 : Int32} {w : q_Sm} {Q : s_Po} {X : s_Xo} (h : vX6_claim_0 d o0 r1 x2 x3 w Q X) : s_Ev (d + 1) 0 mX6_claim w [.ref (o0), .ref (r1), .int (x2), .int (x3)] Q X := s_of (by decide) rfl (Nat.le_of_ble_eq_true rfl) (xX6_claim_0 h)
