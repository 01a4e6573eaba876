def vX10_number_0 (d : Nat) (x1 : Int32) (x2 : Int32) (w : q_Sm) (Q : s_Po) (X : s_Xo) : Prop := s_EvV d 0 mX10_skipBlanks w [.ref (2)] (fun u2 => ∀ w_3 : q_Sm, w_3 = q_wI u2 2 4 (u2.1 2 3) → s_EvI d 0 mX10_peek w_3 [.ref (2)] (fun v4 u5 => s_EvI d 0 mX10_isDigit u5 [.int (v4)] (fun v6 u7 => ((¬ v6 = 0) → s_Ex (d + 1) 0 mX10_number 35 [some (.ref (2)), some (.int (x1)), some (.int (x2)), some (.int (0))] [] u7 Q X) ∧ (¬ (¬ v6 = 0) → s_EvV d 0 mX10_blame u7 [.ref (2), .int (1), .int (u7.1 2 3)] (fun u9 => Q (some (.int (x1))) u9) X)) X) X) X
def vX10_number_35 (d : Nat) (x1 : Int32) (x2 : Int32) (x3 : Int32) (w : q_Sm) (Q : s_Po) (X : s_Xo) : Prop := (((w.1 2 2) ≤ (w.1 2 3)) → ((x3 < x1) → s_EvV d 0 mX10_blame w [.ref (2), .int (2), .int (w.1 2 4)] (fun u11 => Q (some (.int (x1))) u11) X) ∧ (¬ (x3 < x1) → ((x3 ≤ x2) → Q (some (.int (x3))) w) ∧ (¬ (x3 ≤ x2) → s_EvV d 0 mX10_blame w [.ref (2), .int (2), .int (w.1 2 4)] (fun u13 => Q (some (.int (x1))) u13) X))) ∧ (¬ ((w.1 2 2) ≤ (w.1 2 3)) → s_EvI d 0 mX10_peek w [.ref (2)] (fun v14 u15 => s_EvI d 0 mX10_isDigit u15 [.int (v14)] (fun v16 u17 => ((v16 = 0) → ((x3 < x1) → s_EvV d 0 mX10_blame u17 [.ref (2), .int (2), .int (u17.1 2 4)] (fun u19 => Q (some (.int (x1))) u19) X) ∧ (¬ (x3 < x1) → ((x3 ≤ x2) → Q (some (.int (x3))) u17) ∧ (¬ (x3 ≤ x2) → s_EvV d 0 mX10_blame u17 [.ref (2), .int (2), .int (u17.1 2 4)] (fun u21 => Q (some (.int (x1))) u21) X))) ∧ (¬ (v16 = 0) → s_EvI d 0 mX10_peek u17 [.ref (2)] (fun v22 u23 => s_EvI d 0 mK_min u23 [.int (9999), .int (((x3 * 10) + v22) - 48)] (fun v24 u25 => ∀ w_26 : q_Sm, w_26 = q_wI u25 2 3 ((u25.1 2 3) + 1) → s_Ex (d + 1) 0 mX10_number 35 [some (.ref (2)), some (.int (x1)), some (.int (x2)), some (.int (v24))] [] w_26 Q X) X) X)) X) X)
theorem xX10_number_0 {d : Nat} {x1 : Int32} {x2 : Int32} {w : q_Sm} {Q : s_Po} {X : s_Xo} (h : vX10_number_0 d x1 x2 w Q X) : s_Ex (d + 1) 0 mX10_number 0 [some (.ref (2)), some (.int (x1)), some (.int (x2)), none] [] w Q X := by
  unfold vX10_number_0 at h
  refine s_blk [(.aload_n 0, 1, 0, 0)] 1 [some (.ref (2)), some (.int (x1)), some (.int (x2)), none] [.ref (2)] w [] (by decide +kernel) (by refine qt_aload_n (r := 2) rfl ?_; exact qt_z rfl rfl rfl rfl rfl) trivial ?_
  refine s_callV (a := 0) (a' := 0) (As := []) (id := 2) (st := []) kX10_skipBlanks l_10_40 (by decide +kernel) (q_id_of rfl) rfl (Nat.le_of_ble_eq_true rfl) (s_mono h (s_V_of (fun u2 h => ?_)) (fun _ _ h9 => h9))
  show s_Ex (d + 1) 0 mX10_number 4 [some (.ref (2)), some (.int (x1)), some (.int (x2)), none] [] u2 Q X
  replace h := h _ rfl
  refine s_blk [(.aload_n 0, 1, 0, 0), (.aload_n 0, 1, 0, 0), (.getfield 31, 3, 10, 3), (.putfield 34, 3, 10, 4), (.aload_n 0, 1, 0, 0)] 13 [some (.ref (2)), some (.int (x1)), some (.int (x2)), none] [.ref (2)] (q_wI u2 2 4 (u2.1 2 3)) [q_id 116 10 2, q_id 116 10 2] (by decide +kernel) (by refine qt_aload_n (r := 2) rfl ?_; refine qt_aload_n (r := 2) rfl ?_; refine qt_getI rfl rfl ?_; refine qt_putI rfl ?_; refine qt_aload_n (r := 2) rfl ?_; exact qt_z rfl rfl rfl rfl rfl) ⟨(q_id_of rfl), (q_id_of rfl)⟩ ?_
  refine s_callV (a := 0) (a' := 0) (As := []) (id := 2) (st := []) kX10_peek l_10_43 (by decide +kernel) (q_id_of rfl) rfl (Nat.le_of_ble_eq_true rfl) (s_mono h (s_I_of (fun v4 u5 h => ?_)) (fun _ _ h9 => h9))
  show s_Ex (d + 1) 0 mX10_number 16 [some (.ref (2)), some (.int (x1)), some (.int (x2)), none] [.int (v4)] u5 Q X
  refine s_callS (a := 0) (a' := 0) (As := [.int (v4)]) (st := []) kX10_isDigit l_10_55 (by decide +kernel) rfl (Nat.le_of_ble_eq_true rfl) (s_mono h (s_I_of (fun v6 u7 h => ?_)) (fun _ _ h9 => h9))
  show s_Ex (d + 1) 0 mX10_number 19 [some (.ref (2)), some (.int (x1)), some (.int (x2)), none] [.int (v6)] u7 Q X
  refine s_if (cd := .ne) (off := 14) 33 (by decide +kernel) (by decide) (fun hc => ?_) (fun hc => ?_)
  · replace h := h.1 hc
    refine s_blk [(.iconst 0, 1, 0, 0), (.istore_n 3, 1, 0, 0)] 35 [some (.ref (2)), some (.int (x1)), some (.int (x2)), some (.int (0))] [] u7 [] (by decide +kernel) (by refine qt_iconst qc_0 ?_; refine qt_istore_n (L' := [some (.ref (2)), some (.int (x1)), some (.int (x2)), some (.int (0))]) rfl ?_; exact qt_z rfl rfl rfl rfl rfl) trivial ?_
    exact h
  · replace h := h.2 hc
    refine s_blk [(.aload_n 0, 1, 0, 0), (.iconst 1, 1, 0, 0), (.aload_n 0, 1, 0, 0), (.getfield 31, 3, 10, 3)] 28 [some (.ref (2)), some (.int (x1)), some (.int (x2)), none] [.int (u7.1 2 3), .int (1), .ref (2)] u7 [q_id 116 10 2] (by decide +kernel) (by refine qt_aload_n (r := 2) rfl ?_; refine qt_iconst qc_1 ?_; refine qt_aload_n (r := 2) rfl ?_; refine qt_getI rfl rfl ?_; exact qt_z rfl rfl rfl rfl rfl) (q_id_of rfl) ?_
    refine s_callV (a := 0) (a' := 0) (As := [.int (1), .int (u7.1 2 3)]) (id := 2) (st := []) kX10_blame l_10_51 (by decide +kernel) (q_id_of rfl) rfl (Nat.le_of_ble_eq_true rfl) (s_mono h (s_V_of (fun u9 h => ?_)) (fun _ _ h9 => h9))
    show s_Ex (d + 1) 0 mX10_number 31 [some (.ref (2)), some (.int (x1)), some (.int (x2)), none] [] u9 Q X
    refine s_blk [(.iload_n 1, 1, 0, 0)] 32 [some (.ref (2)), some (.int (x1)), some (.int (x2)), none] [.int (x1)] u9 [] (by decide +kernel) (by refine qt_iload_n (x := x1) rfl ?_; exact qt_z rfl rfl rfl rfl rfl) trivial ?_
    exact s_retI .int (by decide +kernel) rfl rfl h
theorem xX10_number_35 {d : Nat} {x1 : Int32} {x2 : Int32} {x3 : Int32} {w : q_Sm} {Q : s_Po} {X : s_Xo} (h : vX10_number_35 d x1 x2 x3 w Q X) : s_Ex (d + 1) 0 mX10_number 35 [some (.ref (2)), some (.int (x1)), some (.int (x2)), some (.int (x3))] [] w Q X := by
  unfold vX10_number_35 at h
  refine s_blk [(.aload_n 0, 1, 0, 0), (.getfield 31, 3, 10, 3), (.aload_n 0, 1, 0, 0), (.getfield 28, 3, 10, 2)] 43 [some (.ref (2)), some (.int (x1)), some (.int (x2)), some (.int (x3))] [.int (w.1 2 2), .int (w.1 2 3)] w [q_id 116 10 2, q_id 116 10 2] (by decide +kernel) (by refine qt_aload_n (r := 2) rfl ?_; refine qt_getI rfl rfl ?_; refine qt_aload_n (r := 2) rfl ?_; refine qt_getI rfl rfl ?_; exact qt_z rfl rfl rfl rfl rfl) ⟨(q_id_of rfl), (q_id_of rfl)⟩ ?_
  refine s_icmp (cd := .ge) (off := 45) 88 (by decide +kernel) (by decide) (fun hc => ?_) (fun hc => ?_)
  · replace h := h.1 hc
    refine s_blk [(.iload_n 3, 1, 0, 0), (.iload_n 1, 1, 0, 0)] 90 [some (.ref (2)), some (.int (x1)), some (.int (x2)), some (.int (x3))] [.int (x1), .int (x3)] w [] (by decide +kernel) (by refine qt_iload_n (x := x3) rfl ?_; refine qt_iload_n (x := x1) rfl ?_; exact qt_z rfl rfl rfl rfl rfl) trivial ?_
    refine s_icmp (cd := .lt) (off := 8) 98 (by decide +kernel) (by decide) (fun hc => ?_) (fun hc => ?_)
    · replace h := h.1 hc
      refine s_blk [(.aload_n 0, 1, 0, 0), (.iconst 2, 1, 0, 0), (.aload_n 0, 1, 0, 0), (.getfield 34, 3, 10, 4)] 104 [some (.ref (2)), some (.int (x1)), some (.int (x2)), some (.int (x3))] [.int (w.1 2 4), .int (2), .ref (2)] w [q_id 116 10 2] (by decide +kernel) (by refine qt_aload_n (r := 2) rfl ?_; refine qt_iconst qc_2 ?_; refine qt_aload_n (r := 2) rfl ?_; refine qt_getI rfl rfl ?_; exact qt_z rfl rfl rfl rfl rfl) (q_id_of rfl) ?_
      refine s_callV (a := 0) (a' := 0) (As := [.int (2), .int (w.1 2 4)]) (id := 2) (st := []) kX10_blame l_10_51 (by decide +kernel) (q_id_of rfl) rfl (Nat.le_of_ble_eq_true rfl) (s_mono h (s_V_of (fun u11 h => ?_)) (fun _ _ h9 => h9))
      show s_Ex (d + 1) 0 mX10_number 107 [some (.ref (2)), some (.int (x1)), some (.int (x2)), some (.int (x3))] [] u11 Q X
      refine s_blk [(.iload_n 1, 1, 0, 0)] 108 [some (.ref (2)), some (.int (x1)), some (.int (x2)), some (.int (x3))] [.int (x1)] u11 [] (by decide +kernel) (by refine qt_iload_n (x := x1) rfl ?_; exact qt_z rfl rfl rfl rfl rfl) trivial ?_
      exact s_retI .int (by decide +kernel) rfl rfl h
    · replace h := h.2 hc
      refine s_blk [(.iload_n 3, 1, 0, 0), (.iload_n 2, 1, 0, 0)] 95 [some (.ref (2)), some (.int (x1)), some (.int (x2)), some (.int (x3))] [.int (x2), .int (x3)] w [] (by decide +kernel) (by refine qt_iload_n (x := x3) rfl ?_; refine qt_iload_n (x := x2) rfl ?_; exact qt_z rfl rfl rfl rfl rfl) trivial ?_
      refine s_icmp (cd := .le) (off := 14) 109 (by decide +kernel) (by decide) (fun hc => ?_) (fun hc => ?_)
      · replace h := h.1 hc
        refine s_blk [(.iload_n 3, 1, 0, 0)] 110 [some (.ref (2)), some (.int (x1)), some (.int (x2)), some (.int (x3))] [.int (x3)] w [] (by decide +kernel) (by refine qt_iload_n (x := x3) rfl ?_; exact qt_z rfl rfl rfl rfl rfl) trivial ?_
        exact s_retI .int (by decide +kernel) rfl rfl h
      · replace h := h.2 hc
        refine s_blk [(.aload_n 0, 1, 0, 0), (.iconst 2, 1, 0, 0), (.aload_n 0, 1, 0, 0), (.getfield 34, 3, 10, 4)] 104 [some (.ref (2)), some (.int (x1)), some (.int (x2)), some (.int (x3))] [.int (w.1 2 4), .int (2), .ref (2)] w [q_id 116 10 2] (by decide +kernel) (by refine qt_aload_n (r := 2) rfl ?_; refine qt_iconst qc_2 ?_; refine qt_aload_n (r := 2) rfl ?_; refine qt_getI rfl rfl ?_; exact qt_z rfl rfl rfl rfl rfl) (q_id_of rfl) ?_
        refine s_callV (a := 0) (a' := 0) (As := [.int (2), .int (w.1 2 4)]) (id := 2) (st := []) kX10_blame l_10_51 (by decide +kernel) (q_id_of rfl) rfl (Nat.le_of_ble_eq_true rfl) (s_mono h (s_V_of (fun u13 h => ?_)) (fun _ _ h9 => h9))
        show s_Ex (d + 1) 0 mX10_number 107 [some (.ref (2)), some (.int (x1)), some (.int (x2)), some (.int (x3))] [] u13 Q X
        refine s_blk [(.iload_n 1, 1, 0, 0)] 108 [some (.ref (2)), some (.int (x1)), some (.int (x2)), some (.int (x3))] [.int (x1)] u13 [] (by decide +kernel) (by refine qt_iload_n (x := x1) rfl ?_; exact qt_z rfl rfl rfl rfl rfl) trivial ?_
        exact s_retI .int (by decide +kernel) rfl rfl h
  · replace h := h.2 hc
    refine s_blk [(.aload_n 0, 1, 0, 0)] 47 [some (.ref (2)), some (.int (x1)), some (.int (x2)), some (.int (x3))] [.ref (2)] w [] (by decide +kernel) (by refine qt_aload_n (r := 2) rfl ?_; exact qt_z rfl rfl rfl rfl rfl) trivial ?_
    refine s_callV (a := 0) (a' := 0) (As := []) (id := 2) (st := []) kX10_peek l_10_43 (by decide +kernel) (q_id_of rfl) rfl (Nat.le_of_ble_eq_true rfl) (s_mono h (s_I_of (fun v14 u15 h => ?_)) (fun _ _ h9 => h9))
    show s_Ex (d + 1) 0 mX10_number 50 [some (.ref (2)), some (.int (x1)), some (.int (x2)), some (.int (x3))] [.int (v14)] u15 Q X
    refine s_callS (a := 0) (a' := 0) (As := [.int (v14)]) (st := []) kX10_isDigit l_10_55 (by decide +kernel) rfl (Nat.le_of_ble_eq_true rfl) (s_mono h (s_I_of (fun v16 u17 h => ?_)) (fun _ _ h9 => h9))
    show s_Ex (d + 1) 0 mX10_number 53 [some (.ref (2)), some (.int (x1)), some (.int (x2)), some (.int (x3))] [.int (v16)] u17 Q X
    refine s_if (cd := .eq) (off := 35) 88 (by decide +kernel) (by decide) (fun hc => ?_) (fun hc => ?_)
    · replace h := h.1 hc
      refine s_blk [(.iload_n 3, 1, 0, 0), (.iload_n 1, 1, 0, 0)] 90 [some (.ref (2)), some (.int (x1)), some (.int (x2)), some (.int (x3))] [.int (x1), .int (x3)] u17 [] (by decide +kernel) (by refine qt_iload_n (x := x3) rfl ?_; refine qt_iload_n (x := x1) rfl ?_; exact qt_z rfl rfl rfl rfl rfl) trivial ?_
      refine s_icmp (cd := .lt) (off := 8) 98 (by decide +kernel) (by decide) (fun hc => ?_) (fun hc => ?_)
      · replace h := h.1 hc
        refine s_blk [(.aload_n 0, 1, 0, 0), (.iconst 2, 1, 0, 0), (.aload_n 0, 1, 0, 0), (.getfield 34, 3, 10, 4)] 104 [some (.ref (2)), some (.int (x1)), some (.int (x2)), some (.int (x3))] [.int (u17.1 2 4), .int (2), .ref (2)] u17 [q_id 116 10 2] (by decide +kernel) (by refine qt_aload_n (r := 2) rfl ?_; refine qt_iconst qc_2 ?_; refine qt_aload_n (r := 2) rfl ?_; refine qt_getI rfl rfl ?_; exact qt_z rfl rfl rfl rfl rfl) (q_id_of rfl) ?_
        refine s_callV (a := 0) (a' := 0) (As := [.int (2), .int (u17.1 2 4)]) (id := 2) (st := []) kX10_blame l_10_51 (by decide +kernel) (q_id_of rfl) rfl (Nat.le_of_ble_eq_true rfl) (s_mono h (s_V_of (fun u19 h => ?_)) (fun _ _ h9 => h9))
        show s_Ex (d + 1) 0 mX10_number 107 [some (.ref (2)), some (.int (x1)), some (.int (x2)), some (.int (x3))] [] u19 Q X
        refine s_blk [(.iload_n 1, 1, 0, 0)] 108 [some (.ref (2)), some (.int (x1)), some (.int (x2)), some (.int (x3))] [.int (x1)] u19 [] (by decide +kernel) (by refine qt_iload_n (x := x1) rfl ?_; exact qt_z rfl rfl rfl rfl rfl) trivial ?_
        exact s_retI .int (by decide +kernel) rfl rfl h
      · replace h := h.2 hc
        refine s_blk [(.iload_n 3, 1, 0, 0), (.iload_n 2, 1, 0, 0)] 95 [some (.ref (2)), some (.int (x1)), some (.int (x2)), some (.int (x3))] [.int (x2), .int (x3)] u17 [] (by decide +kernel) (by refine qt_iload_n (x := x3) rfl ?_; refine qt_iload_n (x := x2) rfl ?_; exact qt_z rfl rfl rfl rfl rfl) trivial ?_
        refine s_icmp (cd := .le) (off := 14) 109 (by decide +kernel) (by decide) (fun hc => ?_) (fun hc => ?_)
        · replace h := h.1 hc
          refine s_blk [(.iload_n 3, 1, 0, 0)] 110 [some (.ref (2)), some (.int (x1)), some (.int (x2)), some (.int (x3))] [.int (x3)] u17 [] (by decide +kernel) (by refine qt_iload_n (x := x3) rfl ?_; exact qt_z rfl rfl rfl rfl rfl) trivial ?_
          exact s_retI .int (by decide +kernel) rfl rfl h
        · replace h := h.2 hc
          refine s_blk [(.aload_n 0, 1, 0, 0), (.iconst 2, 1, 0, 0), (.aload_n 0, 1, 0, 0), (.getfield 34, 3, 10, 4)] 104 [some (.ref (2)), some (.int (x1)), some (.int (x2)), some (.int (x3))] [.int (u17.1 2 4), .int (2), .ref (2)] u17 [q_id 116 10 2] (by decide +kernel) (by refine qt_aload_n (r := 2) rfl ?_; refine qt_iconst qc_2 ?_; refine qt_aload_n (r := 2) rfl ?_; refine qt_getI rfl rfl ?_; exact qt_z rfl rfl rfl rfl rfl) (q_id_of rfl) ?_
          refine s_callV (a := 0) (a' := 0) (As := [.int (2), .int (u17.1 2 4)]) (id := 2) (st := []) kX10_blame l_10_51 (by decide +kernel) (q_id_of rfl) rfl (Nat.le_of_ble_eq_true rfl) (s_mono h (s_V_of (fun u21 h => ?_)) (fun _ _ h9 => h9))
          show s_Ex (d + 1) 0 mX10_number 107 [some (.ref (2)), some (.int (x1)), some (.int (x2)), some (.int (x3))] [] u21 Q X
          refine s_blk [(.iload_n 1, 1, 0, 0)] 108 [some (.ref (2)), some (.int (x1)), some (.int (x2)), some (.int (x3))] [.int (x1)] u21 [] (by decide +kernel) (by refine qt_iload_n (x := x1) rfl ?_; exact qt_z rfl rfl rfl rfl rfl) trivial ?_
          exact s_retI .int (by decide +kernel) rfl rfl h
    · replace h := h.2 hc
      refine s_blk [(.sipush 9999, 3, 0, 0), (.iload_n 3, 1, 0, 0), (.bipush 10, 2, 0, 0), (.imul, 1, 0, 0), (.aload_n 0, 1, 0, 0)] 64 [some (.ref (2)), some (.int (x1)), some (.int (x2)), some (.int (x3))] [.ref (2), .int (x3 * 10), .int (9999)] u17 [] (by decide +kernel) (by refine qt_sipush qs_9999 ?_; refine qt_iload_n (x := x3) rfl ?_; refine qt_bipush qb_10 ?_; refine qt_imul ?_; refine qt_aload_n (r := 2) rfl ?_; exact qt_z rfl rfl rfl rfl rfl) trivial ?_
      refine s_callV (a := 0) (a' := 0) (As := []) (id := 2) (st := [.int (x3 * 10), .int (9999)]) kX10_peek l_10_43 (by decide +kernel) (q_id_of rfl) rfl (Nat.le_of_ble_eq_true rfl) (s_mono h (s_I_of (fun v22 u23 h => ?_)) (fun _ _ h9 => h9))
      show s_Ex (d + 1) 0 mX10_number 67 [some (.ref (2)), some (.int (x1)), some (.int (x2)), some (.int (x3))] [.int (v22), .int (x3 * 10), .int (9999)] u23 Q X
      refine s_blk [(.iadd, 1, 0, 0), (.bipush 48, 2, 0, 0), (.isub, 1, 0, 0)] 71 [some (.ref (2)), some (.int (x1)), some (.int (x2)), some (.int (x3))] [.int (((x3 * 10) + v22) - 48), .int (9999)] u23 [] (by decide +kernel) (by refine qt_iadd ?_; refine qt_bipush qb_48 ?_; refine qt_isub ?_; exact qt_z rfl rfl rfl rfl rfl) trivial ?_
      refine s_callS (a := 0) (a' := 0) (As := [.int (9999), .int (((x3 * 10) + v22) - 48)]) (st := []) kK_min l_10_22 (by decide +kernel) rfl (Nat.le_of_ble_eq_true rfl) (s_mono h (s_I_of (fun v24 u25 h => ?_)) (fun _ _ h9 => h9))
      show s_Ex (d + 1) 0 mX10_number 74 [some (.ref (2)), some (.int (x1)), some (.int (x2)), some (.int (x3))] [.int (v24)] u25 Q X
      replace h := h _ rfl
      refine s_blk [(.istore_n 3, 1, 0, 0), (.aload_n 0, 1, 0, 0), (.dup, 1, 0, 0), (.getfield 31, 3, 10, 3), (.iconst 1, 1, 0, 0), (.iadd, 1, 0, 0), (.putfield 31, 3, 10, 3), (.goto (-50), 3, 35, 0)] 35 [some (.ref (2)), some (.int (x1)), some (.int (x2)), some (.int (v24))] [] (q_wI u25 2 3 ((u25.1 2 3) + 1)) [q_id 116 10 2, q_id 116 10 2] (by decide +kernel) (by refine qt_istore_n (L' := [some (.ref (2)), some (.int (x1)), some (.int (x2)), some (.int (v24))]) rfl ?_; refine qt_aload_n (r := 2) rfl ?_; refine qt_dupR ?_; refine qt_getI rfl rfl ?_; refine qt_iconst qc_1 ?_; refine qt_iadd ?_; refine qt_putI rfl ?_; refine qt_goto ?_; exact qt_z rfl rfl rfl rfl rfl) ⟨(q_id_of rfl), (q_id_of rfl)⟩ ?_
      exact h
theorem eX10_number {d : Nat} {x1 : Int32} {x2 : Int32} {w : q_Sm} {Q : s_Po} {X : s_Xo} (h : vX10_number_0 d x1 x2 w Q X) : s_Ev (d + 1) 0 mX10_number w [.ref (2), .int (x1), .int (x2)] Q X := s_of (by decide +kernel) rfl (Nat.le_of_ble_eq_true rfl) (xX10_number_0 h)
def vX10_word_0 (d : Nat)  (w : q_Sm) (Q : s_Po) (X : s_Xo) : Prop := s_EvV d 0 mX10_skipBlanks w [.ref (2)] (fun u2 => ∀ w_3 : q_Sm, w_3 = q_wI u2 2 4 (u2.1 2 3) → s_Ex (d + 1) 0 mX10_word 12 [some (.ref (2))] [] w_3 Q X) X
def vX10_word_12 (d : Nat)  (w : q_Sm) (Q : s_Po) (X : s_Xo) : Prop := (((w.1 2 2) ≤ (w.1 2 3)) → Q none w) ∧ (¬ ((w.1 2 2) ≤ (w.1 2 3)) → s_EvI d 0 mX10_peek w [.ref (2)] (fun v4 u5 => s_EvI d 0 mX10_isLetter u5 [.int (v4)] (fun v6 u7 => ((v6 = 0) → Q none u7) ∧ (¬ (v6 = 0) → ∀ w_8 : q_Sm, w_8 = q_wI u7 2 3 ((u7.1 2 3) + 1) → s_Ex (d + 1) 0 mX10_word 12 [some (.ref (2))] [] w_8 Q X)) X) X)
theorem xX10_word_0 {d : Nat}  {w : q_Sm} {Q : s_Po} {X : s_Xo} (h : vX10_word_0 d  w Q X) : s_Ex (d + 1) 0 mX10_word 0 [some (.ref (2))] [] w Q X := by
  unfold vX10_word_0 at h
  refine s_blk [(.aload_n 0, 1, 0, 0)] 1 [some (.ref (2))] [.ref (2)] w [] (by decide +kernel) (by refine qt_aload_n (r := 2) rfl ?_; exact qt_z rfl rfl rfl rfl rfl) trivial ?_
  refine s_callV (a := 0) (a' := 0) (As := []) (id := 2) (st := []) kX10_skipBlanks l_10_40 (by decide +kernel) (q_id_of rfl) rfl (Nat.le_of_ble_eq_true rfl) (s_mono h (s_V_of (fun u2 h => ?_)) (fun _ _ h9 => h9))
  show s_Ex (d + 1) 0 mX10_word 4 [some (.ref (2))] [] u2 Q X
  replace h := h _ rfl
  refine s_blk [(.aload_n 0, 1, 0, 0), (.aload_n 0, 1, 0, 0), (.getfield 31, 3, 10, 3), (.putfield 34, 3, 10, 4)] 12 [some (.ref (2))] [] (q_wI u2 2 4 (u2.1 2 3)) [q_id 116 10 2, q_id 116 10 2] (by decide +kernel) (by refine qt_aload_n (r := 2) rfl ?_; refine qt_aload_n (r := 2) rfl ?_; refine qt_getI rfl rfl ?_; refine qt_putI rfl ?_; exact qt_z rfl rfl rfl rfl rfl) ⟨(q_id_of rfl), (q_id_of rfl)⟩ ?_
  exact h
theorem xX10_word_12 {d : Nat}  {w : q_Sm} {Q : s_Po} {X : s_Xo} (h : vX10_word_12 d  w Q X) : s_Ex (d + 1) 0 mX10_word 12 [some (.ref (2))] [] w Q X := by
  unfold vX10_word_12 at h
  refine s_blk [(.aload_n 0, 1, 0, 0), (.getfield 31, 3, 10, 3), (.aload_n 0, 1, 0, 0), (.getfield 28, 3, 10, 2)] 20 [some (.ref (2))] [.int (w.1 2 2), .int (w.1 2 3)] w [q_id 116 10 2, q_id 116 10 2] (by decide +kernel) (by refine qt_aload_n (r := 2) rfl ?_; refine qt_getI rfl rfl ?_; refine qt_aload_n (r := 2) rfl ?_; refine qt_getI rfl rfl ?_; exact qt_z rfl rfl rfl rfl rfl) ⟨(q_id_of rfl), (q_id_of rfl)⟩ ?_
  refine s_icmp (cd := .ge) (off := 26) 46 (by decide +kernel) (by decide) (fun hc => ?_) (fun hc => ?_)
  · replace h := h.1 hc
    exact s_retV (by decide +kernel) rfl h
  · replace h := h.2 hc
    refine s_blk [(.aload_n 0, 1, 0, 0)] 24 [some (.ref (2))] [.ref (2)] w [] (by decide +kernel) (by refine qt_aload_n (r := 2) rfl ?_; exact qt_z rfl rfl rfl rfl rfl) trivial ?_
    refine s_callV (a := 0) (a' := 0) (As := []) (id := 2) (st := []) kX10_peek l_10_43 (by decide +kernel) (q_id_of rfl) rfl (Nat.le_of_ble_eq_true rfl) (s_mono h (s_I_of (fun v4 u5 h => ?_)) (fun _ _ h9 => h9))
    show s_Ex (d + 1) 0 mX10_word 27 [some (.ref (2))] [.int (v4)] u5 Q X
    refine s_callS (a := 0) (a' := 0) (As := [.int (v4)]) (st := []) kX10_isLetter l_10_59 (by decide +kernel) rfl (Nat.le_of_ble_eq_true rfl) (s_mono h (s_I_of (fun v6 u7 h => ?_)) (fun _ _ h9 => h9))
    show s_Ex (d + 1) 0 mX10_word 30 [some (.ref (2))] [.int (v6)] u7 Q X
    refine s_if (cd := .eq) (off := 16) 46 (by decide +kernel) (by decide) (fun hc => ?_) (fun hc => ?_)
    · replace h := h.1 hc
      exact s_retV (by decide +kernel) rfl h
    · replace h := h.2 hc
      replace h := h _ rfl
      refine s_blk [(.aload_n 0, 1, 0, 0), (.dup, 1, 0, 0), (.getfield 31, 3, 10, 3), (.iconst 1, 1, 0, 0), (.iadd, 1, 0, 0), (.putfield 31, 3, 10, 3), (.goto (-31), 3, 12, 0)] 12 [some (.ref (2))] [] (q_wI u7 2 3 ((u7.1 2 3) + 1)) [q_id 116 10 2, q_id 116 10 2] (by decide +kernel) (by refine qt_aload_n (r := 2) rfl ?_; refine qt_dupR ?_; refine qt_getI rfl rfl ?_; refine qt_iconst qc_1 ?_; refine qt_iadd ?_; refine qt_putI rfl ?_; refine qt_goto ?_; exact qt_z rfl rfl rfl rfl rfl) ⟨(q_id_of rfl), (q_id_of rfl)⟩ ?_
      exact h
theorem eX10_word {d : Nat}  {w : q_Sm} {Q : s_Po} {X : s_Xo} (h : vX10_word_0 d  w Q X) : s_Ev (d + 1) 0 mX10_word w [.ref (2)] Q X := s_of (by decide +kernel) rfl (Nat.le_of_ble_eq_true rfl) (xX10_word_0 h)
def vX10_was_0 (d : Nat) (r1 : Nat) (w : q_Sm) (Q : s_Po) (X : s_Xo) : Prop := r1 < 51 ∧ s_EvI d 0 mS_length w [.retAddr (r1)] (fun v1 u2 => ((((w.1 2 3) - (w.1 2 4)) = v1) → s_Ex (d + 1) 0 mX10_was 20 [some (.ref (2)), some (.retAddr (r1)), some (.int (0))] [] u2 Q X) ∧ (¬ (((w.1 2 3) - (w.1 2 4)) = v1) → Q (some (.int (0))) u2)) X
def vX10_was_20 (d : Nat) (r1 : Nat) (x2 : Int32) (w : q_Sm) (Q : s_Po) (X : s_Xo) : Prop := r1 < 51 ∧ s_EvI d 0 mS_length w [.retAddr (r1)] (fun v3 u4 => ((v3 ≤ x2) → Q (some (.int (1))) u4) ∧ (¬ (v3 ≤ x2) → (vp_in ((u4.1 2 4) + x2) 600) ∧ r1 < 51 ∧ s_EvI d 0 mS_charAt u4 [.retAddr (r1), .int (x2)] (fun v5 u6 => (((u4.1 3 (Int32.toNatClampNeg ((u4.1 2 4) + x2))) = v5) → s_Ex (d + 1) 0 mX10_was 20 [some (.ref (2)), some (.retAddr (r1)), some (.int (x2 + 1))] [] u6 Q X) ∧ (¬ ((u4.1 3 (Int32.toNatClampNeg ((u4.1 2 4) + x2))) = v5) → Q (some (.int (0))) u6)) X)) X
theorem xX10_was_0 {d : Nat} {r1 : Nat} {w : q_Sm} {Q : s_Po} {X : s_Xo} (h : vX10_was_0 d r1 w Q X) : s_Ex (d + 1) 0 mX10_was 0 [some (.ref (2)), some (.retAddr (r1)), none] [] w Q X := by
  unfold vX10_was_0 at h
  refine s_blk [(.aload_n 0, 1, 0, 0), (.getfield 31, 3, 10, 3), (.aload_n 0, 1, 0, 0), (.getfield 34, 3, 10, 4), (.isub, 1, 0, 0), (.aload_n 1, 1, 0, 0)] 10 [some (.ref (2)), some (.retAddr (r1)), none] [.retAddr (r1), .int ((w.1 2 3) - (w.1 2 4))] w [q_id 116 10 2, q_id 116 10 2] (by decide +kernel) (by refine qt_aload_n (r := 2) rfl ?_; refine qt_getI rfl rfl ?_; refine qt_aload_n (r := 2) rfl ?_; refine qt_getI rfl rfl ?_; refine qt_isub ?_; refine qt_sload_n (r := r1) rfl ?_; exact qt_z rfl rfl rfl rfl rfl) ⟨(q_id_of rfl), (q_id_of rfl)⟩ ?_
  obtain ⟨hid, h⟩ := h
  refine s_callT (a := 0) (a' := 0) (As := []) (id := r1) (st := [.int ((w.1 2 3) - (w.1 2 4))]) kS_length l_10_62 (by decide +kernel) hid rfl (Nat.le_of_ble_eq_true rfl) (s_mono h (s_I_of (fun v1 u2 h => ?_)) (fun _ _ h9 => h9))
  show s_Ex (d + 1) 0 mX10_was 13 [some (.ref (2)), some (.retAddr (r1)), none] [.int (v1), .int ((w.1 2 3) - (w.1 2 4))] u2 Q X
  refine s_icmp (cd := .eq) (off := 5) 18 (by decide +kernel) (by decide) (fun hc => ?_) (fun hc => ?_)
  · replace h := h.1 hc
    refine s_blk [(.iconst 0, 1, 0, 0), (.istore_n 2, 1, 0, 0)] 20 [some (.ref (2)), some (.retAddr (r1)), some (.int (0))] [] u2 [] (by decide +kernel) (by refine qt_iconst qc_0 ?_; refine qt_istore_n (L' := [some (.ref (2)), some (.retAddr (r1)), some (.int (0))]) rfl ?_; exact qt_z rfl rfl rfl rfl rfl) trivial ?_
    exact h
  · replace h := h.2 hc
    refine s_blk [(.iconst 0, 1, 0, 0)] 17 [some (.ref (2)), some (.retAddr (r1)), none] [.int (0)] u2 [] (by decide +kernel) (by refine qt_iconst qc_0 ?_; exact qt_z rfl rfl rfl rfl rfl) trivial ?_
    exact s_retI .boolean (by decide +kernel) rfl rfl h
theorem xX10_was_20 {d : Nat} {r1 : Nat} {x2 : Int32} {w : q_Sm} {Q : s_Po} {X : s_Xo} (h : vX10_was_20 d r1 x2 w Q X) : s_Ex (d + 1) 0 mX10_was 20 [some (.ref (2)), some (.retAddr (r1)), some (.int (x2))] [] w Q X := by
  unfold vX10_was_20 at h
  refine s_blk [(.iload_n 2, 1, 0, 0), (.aload_n 1, 1, 0, 0)] 22 [some (.ref (2)), some (.retAddr (r1)), some (.int (x2))] [.retAddr (r1), .int (x2)] w [] (by decide +kernel) (by refine qt_iload_n (x := x2) rfl ?_; refine qt_sload_n (r := r1) rfl ?_; exact qt_z rfl rfl rfl rfl rfl) trivial ?_
  obtain ⟨hid, h⟩ := h
  refine s_callT (a := 0) (a' := 0) (As := []) (id := r1) (st := [.int (x2)]) kS_length l_10_62 (by decide +kernel) hid rfl (Nat.le_of_ble_eq_true rfl) (s_mono h (s_I_of (fun v3 u4 h => ?_)) (fun _ _ h9 => h9))
  show s_Ex (d + 1) 0 mX10_was 25 [some (.ref (2)), some (.retAddr (r1)), some (.int (x2))] [.int (v3), .int (x2)] u4 Q X
  refine s_icmp (cd := .ge) (off := 30) 55 (by decide +kernel) (by decide) (fun hc => ?_) (fun hc => ?_)
  · replace h := h.1 hc
    refine s_blk [(.iconst 1, 1, 0, 0)] 56 [some (.ref (2)), some (.retAddr (r1)), some (.int (x2))] [.int (1)] u4 [] (by decide +kernel) (by refine qt_iconst qc_1 ?_; exact qt_z rfl rfl rfl rfl rfl) trivial ?_
    exact s_retI .boolean (by decide +kernel) rfl rfl h
  · replace h := h.2 hc
    obtain ⟨ho7, h⟩ := h
    refine s_blk [(.aload_n 0, 1, 0, 0), (.getfield 9, 3, 10, 0), (.aload_n 0, 1, 0, 0), (.getfield 34, 3, 10, 4), (.iload_n 2, 1, 0, 0), (.iadd, 1, 0, 0), (.baload, 1, 13, 0), (.aload_n 1, 1, 0, 0), (.iload_n 2, 1, 0, 0)] 41 [some (.ref (2)), some (.retAddr (r1)), some (.int (x2))] [.int (x2), .retAddr (r1), .int (u4.1 3 (Int32.toNatClampNeg ((u4.1 2 4) + x2)))] u4 [q_id 116 10 2, q_id 116 10 2, q_id 116 13 3, vp_in ((u4.1 2 4) + x2) 600] (by decide +kernel) (by refine qt_aload_n (r := 2) rfl ?_; refine qt_getR (r := 3) rfl rfl rfl ?_; refine qt_aload_n (r := 2) rfl ?_; refine qt_getI rfl rfl ?_; refine qt_iload_n (x := x2) rfl ?_; refine qt_iadd ?_; refine qt_bald ?_; refine qt_sload_n (r := r1) rfl ?_; refine qt_iload_n (x := x2) rfl ?_; exact qt_z rfl rfl rfl rfl rfl) ⟨(q_id_of rfl), (q_id_of rfl), (q_id_of rfl), ho7⟩ ?_
    obtain ⟨hid, h⟩ := h
    refine s_callT (a := 0) (a' := 0) (As := [.int (x2)]) (id := r1) (st := [.int (u4.1 3 (Int32.toNatClampNeg ((u4.1 2 4) + x2)))]) kS_charAt l_10_67 (by decide +kernel) hid rfl (Nat.le_of_ble_eq_true rfl) (s_mono h (s_I_of (fun v5 u6 h => ?_)) (fun _ _ h9 => h9))
    show s_Ex (d + 1) 0 mX10_was 44 [some (.ref (2)), some (.retAddr (r1)), some (.int (x2))] [.int (v5), .int (u4.1 3 (Int32.toNatClampNeg ((u4.1 2 4) + x2)))] u6 Q X
    refine s_icmp (cd := .eq) (off := 5) 49 (by decide +kernel) (by decide) (fun hc => ?_) (fun hc => ?_)
    · replace h := h.1 hc
      refine s_blk [(.iinc 2 1, 3, 0, 0), (.goto (-32), 3, 20, 0)] 20 [some (.ref (2)), some (.retAddr (r1)), some (.int (x2 + 1))] [] u6 [] (by decide +kernel) (by refine qt_iinc (x := x2) (L' := [some (.ref (2)), some (.retAddr (r1)), some (.int (x2 + 1))]) rfl qc_1 rfl ?_; refine qt_goto ?_; exact qt_z rfl rfl rfl rfl rfl) trivial ?_
      exact h
    · replace h := h.2 hc
      refine s_blk [(.iconst 0, 1, 0, 0)] 48 [some (.ref (2)), some (.retAddr (r1)), some (.int (x2))] [.int (0)] u6 [] (by decide +kernel) (by refine qt_iconst qc_0 ?_; exact qt_z rfl rfl rfl rfl rfl) trivial ?_
      exact s_retI .boolean (by decide +kernel) rfl rfl h
theorem eX10_was {d : Nat} {r1 : Nat} {w : q_Sm} {Q : s_Po} {X : s_Xo} (h : vX10_was_0 d r1 w Q X) : s_Ev (d + 1) 0 mX10_was w [.ref (2), .retAddr (r1)] Q X := s_of (by decide +kernel) rfl (Nat.le_of_ble_eq_true rfl) (xX10_was_0 h)
def vX10_colour_0 (d : Nat)  (w : q_Sm) (Q : s_Po) (X : s_Xo) : Prop := s_EvV d 0 mX10_word w [.ref (2)] (fun u2 => s_EvI d 0 mX10_was u2 [.ref (2), .retAddr (2)] (fun v3 u4 => ((v3 = 0) → s_EvI d 0 mX10_was u4 [.ref (2), .retAddr (3)] (fun v5 u6 => ((v5 = 0) → s_EvI d 0 mX10_was u6 [.ref (2), .retAddr (4)] (fun v7 u8 => ((v7 = 0) → s_EvI d 0 mX10_was u8 [.ref (2), .retAddr (5)] (fun v9 u10 => ((¬ v9 = 0) → Q (some (.int (3))) u10) ∧ (¬ (¬ v9 = 0) → s_EvV d 0 mX10_blame u10 [.ref (2), .int (1), .int (u10.1 2 4)] (fun u12 => Q (some (.int (3))) u12) X)) X) ∧ (¬ (v7 = 0) → Q (some (.int (2))) u8)) X) ∧ (¬ (v5 = 0) → Q (some (.int (1))) u6)) X) ∧ (¬ (v3 = 0) → Q (some (.int (0))) u4)) X) X
theorem xX10_colour_0 {d : Nat}  {w : q_Sm} {Q : s_Po} {X : s_Xo} (h : vX10_colour_0 d  w Q X) : s_Ex (d + 1) 0 mX10_colour 0 [some (.ref (2))] [] w Q X := by
  unfold vX10_colour_0 at h
  refine s_blk [(.aload_n 0, 1, 0, 0)] 1 [some (.ref (2))] [.ref (2)] w [] (by decide +kernel) (by refine qt_aload_n (r := 2) rfl ?_; exact qt_z rfl rfl rfl rfl rfl) trivial ?_
  refine s_callV (a := 0) (a' := 0) (As := []) (id := 2) (st := []) kX10_word l_10_71 (by decide +kernel) (q_id_of rfl) rfl (Nat.le_of_ble_eq_true rfl) (s_mono h (s_V_of (fun u2 h => ?_)) (fun _ _ h9 => h9))
  show s_Ex (d + 1) 0 mX10_colour 4 [some (.ref (2))] [] u2 Q X
  refine s_blk [(.aload_n 0, 1, 0, 0), (.ldc 74, 2, 1, 2)] 7 [some (.ref (2))] [.retAddr (2), .ref (2)] u2 [] (by decide +kernel) (by refine qt_aload_n (r := 2) rfl ?_; refine qt_ldcS ?_; exact qt_z rfl rfl rfl rfl rfl) trivial ?_
  refine s_callV (a := 0) (a' := 0) (As := [.retAddr (2)]) (id := 2) (st := []) kX10_was l_10_76 (by decide +kernel) (q_id_of rfl) rfl (Nat.le_of_ble_eq_true rfl) (s_mono h (s_I_of (fun v3 u4 h => ?_)) (fun _ _ h9 => h9))
  show s_Ex (d + 1) 0 mX10_colour 10 [some (.ref (2))] [.int (v3)] u4 Q X
  refine s_if (cd := .eq) (off := 5) 15 (by decide +kernel) (by decide) (fun hc => ?_) (fun hc => ?_)
  · replace h := h.1 hc
    refine s_blk [(.aload_n 0, 1, 0, 0), (.ldc 80, 2, 1, 3)] 18 [some (.ref (2))] [.retAddr (3), .ref (2)] u4 [] (by decide +kernel) (by refine qt_aload_n (r := 2) rfl ?_; refine qt_ldcS ?_; exact qt_z rfl rfl rfl rfl rfl) trivial ?_
    refine s_callV (a := 0) (a' := 0) (As := [.retAddr (3)]) (id := 2) (st := []) kX10_was l_10_76 (by decide +kernel) (q_id_of rfl) rfl (Nat.le_of_ble_eq_true rfl) (s_mono h (s_I_of (fun v5 u6 h => ?_)) (fun _ _ h9 => h9))
    show s_Ex (d + 1) 0 mX10_colour 21 [some (.ref (2))] [.int (v5)] u6 Q X
    refine s_if (cd := .eq) (off := 5) 26 (by decide +kernel) (by decide) (fun hc => ?_) (fun hc => ?_)
    · replace h := h.1 hc
      refine s_blk [(.aload_n 0, 1, 0, 0), (.ldc 82, 2, 1, 4)] 29 [some (.ref (2))] [.retAddr (4), .ref (2)] u6 [] (by decide +kernel) (by refine qt_aload_n (r := 2) rfl ?_; refine qt_ldcS ?_; exact qt_z rfl rfl rfl rfl rfl) trivial ?_
      refine s_callV (a := 0) (a' := 0) (As := [.retAddr (4)]) (id := 2) (st := []) kX10_was l_10_76 (by decide +kernel) (q_id_of rfl) rfl (Nat.le_of_ble_eq_true rfl) (s_mono h (s_I_of (fun v7 u8 h => ?_)) (fun _ _ h9 => h9))
      show s_Ex (d + 1) 0 mX10_colour 32 [some (.ref (2))] [.int (v7)] u8 Q X
      refine s_if (cd := .eq) (off := 5) 37 (by decide +kernel) (by decide) (fun hc => ?_) (fun hc => ?_)
      · replace h := h.1 hc
        refine s_blk [(.aload_n 0, 1, 0, 0), (.ldc 84, 2, 1, 5)] 40 [some (.ref (2))] [.retAddr (5), .ref (2)] u8 [] (by decide +kernel) (by refine qt_aload_n (r := 2) rfl ?_; refine qt_ldcS ?_; exact qt_z rfl rfl rfl rfl rfl) trivial ?_
        refine s_callV (a := 0) (a' := 0) (As := [.retAddr (5)]) (id := 2) (st := []) kX10_was l_10_76 (by decide +kernel) (q_id_of rfl) rfl (Nat.le_of_ble_eq_true rfl) (s_mono h (s_I_of (fun v9 u10 h => ?_)) (fun _ _ h9 => h9))
        show s_Ex (d + 1) 0 mX10_colour 43 [some (.ref (2))] [.int (v9)] u10 Q X
        refine s_if (cd := .ne) (off := 12) 55 (by decide +kernel) (by decide) (fun hc => ?_) (fun hc => ?_)
        · replace h := h.1 hc
          refine s_blk [(.iconst 3, 1, 0, 0)] 56 [some (.ref (2))] [.int (3)] u10 [] (by decide +kernel) (by refine qt_iconst qc_3 ?_; exact qt_z rfl rfl rfl rfl rfl) trivial ?_
          exact s_retI .int (by decide +kernel) rfl rfl h
        · replace h := h.2 hc
          refine s_blk [(.aload_n 0, 1, 0, 0), (.iconst 1, 1, 0, 0), (.aload_n 0, 1, 0, 0), (.getfield 34, 3, 10, 4)] 52 [some (.ref (2))] [.int (u10.1 2 4), .int (1), .ref (2)] u10 [q_id 116 10 2] (by decide +kernel) (by refine qt_aload_n (r := 2) rfl ?_; refine qt_iconst qc_1 ?_; refine qt_aload_n (r := 2) rfl ?_; refine qt_getI rfl rfl ?_; exact qt_z rfl rfl rfl rfl rfl) (q_id_of rfl) ?_
          refine s_callV (a := 0) (a' := 0) (As := [.int (1), .int (u10.1 2 4)]) (id := 2) (st := []) kX10_blame l_10_51 (by decide +kernel) (q_id_of rfl) rfl (Nat.le_of_ble_eq_true rfl) (s_mono h (s_V_of (fun u12 h => ?_)) (fun _ _ h9 => h9))
          show s_Ex (d + 1) 0 mX10_colour 55 [some (.ref (2))] [] u12 Q X
          refine s_blk [(.iconst 3, 1, 0, 0)] 56 [some (.ref (2))] [.int (3)] u12 [] (by decide +kernel) (by refine qt_iconst qc_3 ?_; exact qt_z rfl rfl rfl rfl rfl) trivial ?_
          exact s_retI .int (by decide +kernel) rfl rfl h
      · replace h := h.2 hc
        refine s_blk [(.iconst 2, 1, 0, 0)] 36 [some (.ref (2))] [.int (2)] u8 [] (by decide +kernel) (by refine qt_iconst qc_2 ?_; exact qt_z rfl rfl rfl rfl rfl) trivial ?_
        exact s_retI .int (by decide +kernel) rfl rfl h
    · replace h := h.2 hc
      refine s_blk [(.iconst 1, 1, 0, 0)] 25 [some (.ref (2))] [.int (1)] u6 [] (by decide +kernel) (by refine qt_iconst qc_1 ?_; exact qt_z rfl rfl rfl rfl rfl) trivial ?_
      exact s_retI .int (by decide +kernel) rfl rfl h
  · replace h := h.2 hc
    refine s_blk [(.iconst 0, 1, 0, 0)] 14 [some (.ref (2))] [.int (0)] u4 [] (by decide +kernel) (by refine qt_iconst qc_0 ?_; exact qt_z rfl rfl rfl rfl rfl) trivial ?_
    exact s_retI .int (by decide +kernel) rfl rfl h
theorem eX10_colour {d : Nat}  {w : q_Sm} {Q : s_Po} {X : s_Xo} (h : vX10_colour_0 d  w Q X) : s_Ev (d + 1) 0 mX10_colour w [.ref (2)] Q X := s_of (by decide +kernel) rfl (Nat.le_of_ble_eq_true rfl) (xX10_colour_0 h)
def vX10_peek_0 (d : Nat)  (w : q_Sm) (Q : s_Po) (X : s_Xo) : Prop := (((w.1 2 2) ≤ (w.1 2 3)) → Q (some (.int (-1))) w) ∧ (¬ ((w.1 2 2) ≤ (w.1 2 3)) → (vp_in (w.1 2 3) 600) ∧ Q (some (.int ((w.1 3 (Int32.toNatClampNeg (w.1 2 3))) &&& 255))) w)
theorem xX10_peek_0 {d : Nat}  {w : q_Sm} {Q : s_Po} {X : s_Xo} (h : vX10_peek_0 d  w Q X) : s_Ex (d + 1) 0 mX10_peek 0 [some (.ref (2))] [] w Q X := by
  unfold vX10_peek_0 at h
  refine s_blk [(.aload_n 0, 1, 0, 0), (.getfield 31, 3, 10, 3), (.aload_n 0, 1, 0, 0), (.getfield 28, 3, 10, 2)] 8 [some (.ref (2))] [.int (w.1 2 2), .int (w.1 2 3)] w [q_id 116 10 2, q_id 116 10 2] (by decide +kernel) (by refine qt_aload_n (r := 2) rfl ?_; refine qt_getI rfl rfl ?_; refine qt_aload_n (r := 2) rfl ?_; refine qt_getI rfl rfl ?_; exact qt_z rfl rfl rfl rfl rfl) ⟨(q_id_of rfl), (q_id_of rfl)⟩ ?_
  refine s_icmp (cd := .ge) (off := 19) 27 (by decide +kernel) (by decide) (fun hc => ?_) (fun hc => ?_)
  · replace h := h.1 hc
    refine s_blk [(.iconst (-1), 1, 0, 0)] 28 [some (.ref (2))] [.int (-1)] w [] (by decide +kernel) (by refine qt_iconst qc_m1 ?_; exact qt_z rfl rfl rfl rfl rfl) trivial ?_
    exact s_retI .int (by decide +kernel) rfl rfl h
  · replace h := h.2 hc
    obtain ⟨ho1, h⟩ := h
    refine s_blk [(.aload_n 0, 1, 0, 0), (.getfield 9, 3, 10, 0), (.aload_n 0, 1, 0, 0), (.getfield 31, 3, 10, 3), (.baload, 1, 13, 0), (.sipush 255, 3, 0, 0), (.iand, 1, 0, 0), (.goto 4, 3, 28, 0)] 28 [some (.ref (2))] [.int ((w.1 3 (Int32.toNatClampNeg (w.1 2 3))) &&& 255)] w [q_id 116 10 2, q_id 116 10 2, q_id 116 13 3, vp_in (w.1 2 3) 600] (by decide +kernel) (by refine qt_aload_n (r := 2) rfl ?_; refine qt_getR (r := 3) rfl rfl rfl ?_; refine qt_aload_n (r := 2) rfl ?_; refine qt_getI rfl rfl ?_; refine qt_bald ?_; refine qt_sipush qs_255 ?_; refine qt_iand ?_; refine qt_goto ?_; exact qt_z rfl rfl rfl rfl rfl) ⟨(q_id_of rfl), (q_id_of rfl), (q_id_of rfl), ho1⟩ ?_
    exact s_retI .int (by decide +kernel) rfl rfl h
theorem eX10_peek {d : Nat}  {w : q_Sm} {Q : s_Po} {X : s_Xo} (h : vX10_peek_0 d  w Q X) : s_Ev (d + 1) 0 mX10_peek w [.ref (2)] Q X := s_of (by decide +kernel) rfl (Nat.le_of_ble_eq_true rfl) (xX10_peek_0 h)
def vX10_skipBlanks_0 (d : Nat)  (w : q_Sm) (Q : s_Po) (X : s_Xo) : Prop := (((w.1 2 2) ≤ (w.1 2 3)) → Q none w) ∧ (¬ ((w.1 2 2) ≤ (w.1 2 3)) → (vp_in (w.1 2 3) 600) ∧ ((¬ (w.1 3 (Int32.toNatClampNeg (w.1 2 3))) = 32) → Q none w) ∧ (¬ (¬ (w.1 3 (Int32.toNatClampNeg (w.1 2 3))) = 32) → ∀ w_1 : q_Sm, w_1 = q_wI w 2 3 ((w.1 2 3) + 1) → s_Ex (d + 1) 0 mX10_skipBlanks 0 [some (.ref (2))] [] w_1 Q X))
theorem xX10_skipBlanks_0 {d : Nat}  {w : q_Sm} {Q : s_Po} {X : s_Xo} (h : vX10_skipBlanks_0 d  w Q X) : s_Ex (d + 1) 0 mX10_skipBlanks 0 [some (.ref (2))] [] w Q X := by
  unfold vX10_skipBlanks_0 at h
  refine s_blk [(.aload_n 0, 1, 0, 0), (.getfield 31, 3, 10, 3), (.aload_n 0, 1, 0, 0), (.getfield 28, 3, 10, 2)] 8 [some (.ref (2))] [.int (w.1 2 2), .int (w.1 2 3)] w [q_id 116 10 2, q_id 116 10 2] (by decide +kernel) (by refine qt_aload_n (r := 2) rfl ?_; refine qt_getI rfl rfl ?_; refine qt_aload_n (r := 2) rfl ?_; refine qt_getI rfl rfl ?_; exact qt_z rfl rfl rfl rfl rfl) ⟨(q_id_of rfl), (q_id_of rfl)⟩ ?_
  refine s_icmp (cd := .ge) (off := 30) 38 (by decide +kernel) (by decide) (fun hc => ?_) (fun hc => ?_)
  · replace h := h.1 hc
    exact s_retV (by decide +kernel) rfl h
  · replace h := h.2 hc
    obtain ⟨ho2, h⟩ := h
    refine s_blk [(.aload_n 0, 1, 0, 0), (.getfield 9, 3, 10, 0), (.aload_n 0, 1, 0, 0), (.getfield 31, 3, 10, 3), (.baload, 1, 13, 0), (.bipush 32, 2, 0, 0)] 22 [some (.ref (2))] [.int (32), .int (w.1 3 (Int32.toNatClampNeg (w.1 2 3)))] w [q_id 116 10 2, q_id 116 10 2, q_id 116 13 3, vp_in (w.1 2 3) 600] (by decide +kernel) (by refine qt_aload_n (r := 2) rfl ?_; refine qt_getR (r := 3) rfl rfl rfl ?_; refine qt_aload_n (r := 2) rfl ?_; refine qt_getI rfl rfl ?_; refine qt_bald ?_; refine qt_bipush qb_32 ?_; exact qt_z rfl rfl rfl rfl rfl) ⟨(q_id_of rfl), (q_id_of rfl), (q_id_of rfl), ho2⟩ ?_
    refine s_icmp (cd := .ne) (off := 16) 38 (by decide +kernel) (by decide) (fun hc => ?_) (fun hc => ?_)
    · replace h := h.1 hc
      exact s_retV (by decide +kernel) rfl h
    · replace h := h.2 hc
      replace h := h _ rfl
      refine s_blk [(.aload_n 0, 1, 0, 0), (.dup, 1, 0, 0), (.getfield 31, 3, 10, 3), (.iconst 1, 1, 0, 0), (.iadd, 1, 0, 0), (.putfield 31, 3, 10, 3), (.goto (-35), 3, 0, 0)] 0 [some (.ref (2))] [] (q_wI w 2 3 ((w.1 2 3) + 1)) [q_id 116 10 2, q_id 116 10 2] (by decide +kernel) (by refine qt_aload_n (r := 2) rfl ?_; refine qt_dupR ?_; refine qt_getI rfl rfl ?_; refine qt_iconst qc_1 ?_; refine qt_iadd ?_; refine qt_putI rfl ?_; refine qt_goto ?_; exact qt_z rfl rfl rfl rfl rfl) ⟨(q_id_of rfl), (q_id_of rfl)⟩ ?_
      exact h
theorem eX10_skipBlanks {d : Nat}  {w : q_Sm} {Q : s_Po} {X : s_Xo} (h : vX10_skipBlanks_0 d  w Q X) : s_Ev (d + 1) 0 mX10_skipBlanks w [.ref (2)] Q X := s_of (by decide +kernel) rfl (Nat.le_of_ble_eq_true rfl) (xX10_skipBlanks_0 h)
def vX10_isDigit_0 (d : Nat) (x0 : Int32) (w : q_Sm) (Q : s_Po) (X : s_Xo) : Prop := ((x0 < 48) → Q (some (.int (0))) w) ∧ (¬ (x0 < 48) → ((57 < x0) → Q (some (.int (0))) w) ∧ (¬ (57 < x0) → Q (some (.int (1))) w))
theorem xX10_isDigit_0 {d : Nat} {x0 : Int32} {w : q_Sm} {Q : s_Po} {X : s_Xo} (h : vX10_isDigit_0 d x0 w Q X) : s_Ex (d + 1) 0 mX10_isDigit 0 [some (.int (x0))] [] w Q X := by
  unfold vX10_isDigit_0 at h
  refine s_blk [(.iload_n 0, 1, 0, 0), (.bipush 48, 2, 0, 0)] 3 [some (.int (x0))] [.int (48), .int (x0)] w [] (by decide +kernel) (by refine qt_iload_n (x := x0) rfl ?_; refine qt_bipush qb_48 ?_; exact qt_z rfl rfl rfl rfl rfl) trivial ?_
  refine s_icmp (cd := .lt) (off := 13) 16 (by decide +kernel) (by decide) (fun hc => ?_) (fun hc => ?_)
  · replace h := h.1 hc
    refine s_blk [(.iconst 0, 1, 0, 0)] 17 [some (.int (x0))] [.int (0)] w [] (by decide +kernel) (by refine qt_iconst qc_0 ?_; exact qt_z rfl rfl rfl rfl rfl) trivial ?_
    exact s_retI .boolean (by decide +kernel) rfl rfl h
  · replace h := h.2 hc
    refine s_blk [(.iload_n 0, 1, 0, 0), (.bipush 57, 2, 0, 0)] 9 [some (.int (x0))] [.int (57), .int (x0)] w [] (by decide +kernel) (by refine qt_iload_n (x := x0) rfl ?_; refine qt_bipush qb_57 ?_; exact qt_z rfl rfl rfl rfl rfl) trivial ?_
    refine s_icmp (cd := .gt) (off := 7) 16 (by decide +kernel) (by decide) (fun hc => ?_) (fun hc => ?_)
    · replace h := h.1 hc
      refine s_blk [(.iconst 0, 1, 0, 0)] 17 [some (.int (x0))] [.int (0)] w [] (by decide +kernel) (by refine qt_iconst qc_0 ?_; exact qt_z rfl rfl rfl rfl rfl) trivial ?_
      exact s_retI .boolean (by decide +kernel) rfl rfl h
    · replace h := h.2 hc
      refine s_blk [(.iconst 1, 1, 0, 0), (.goto 4, 3, 17, 0)] 17 [some (.int (x0))] [.int (1)] w [] (by decide +kernel) (by refine qt_iconst qc_1 ?_; refine qt_goto ?_; exact qt_z rfl rfl rfl rfl rfl) trivial ?_
      exact s_retI .boolean (by decide +kernel) rfl rfl h
theorem eX10_isDigit {d : Nat} {x0 : Int32} {w : q_Sm} {Q : s_Po} {X : s_Xo} (h : vX10_isDigit_0 d x0 w Q X) : s_Ev (d + 1) 0 mX10_isDigit w [.int (x0)] Q X := s_of (by decide +kernel) rfl (Nat.le_of_ble_eq_true rfl) (xX10_isDigit_0 h)
def vX10_isLetter_0 (d : Nat) (x0 : Int32) (w : q_Sm) (Q : s_Po) (X : s_Xo) : Prop := ((x0 < 97) → Q (some (.int (0))) w) ∧ (¬ (x0 < 97) → ((122 < x0) → Q (some (.int (0))) w) ∧ (¬ (122 < x0) → Q (some (.int (1))) w))
theorem xX10_isLetter_0 {d : Nat} {x0 : Int32} {w : q_Sm} {Q : s_Po} {X : s_Xo} (h : vX10_isLetter_0 d x0 w Q X) : s_Ex (d + 1) 0 mX10_isLetter 0 [some (.int (x0))] [] w Q X := by
  unfold vX10_isLetter_0 at h
  refine s_blk [(.iload_n 0, 1, 0, 0), (.bipush 97, 2, 0, 0)] 3 [some (.int (x0))] [.int (97), .int (x0)] w [] (by decide +kernel) (by refine qt_iload_n (x := x0) rfl ?_; refine qt_bipush qb_97 ?_; exact qt_z rfl rfl rfl rfl rfl) trivial ?_
  refine s_icmp (cd := .lt) (off := 13) 16 (by decide +kernel) (by decide) (fun hc => ?_) (fun hc => ?_)
  · replace h := h.1 hc
    refine s_blk [(.iconst 0, 1, 0, 0)] 17 [some (.int (x0))] [.int (0)] w [] (by decide +kernel) (by refine qt_iconst qc_0 ?_; exact qt_z rfl rfl rfl rfl rfl) trivial ?_
    exact s_retI .boolean (by decide +kernel) rfl rfl h
  · replace h := h.2 hc
    refine s_blk [(.iload_n 0, 1, 0, 0), (.bipush 122, 2, 0, 0)] 9 [some (.int (x0))] [.int (122), .int (x0)] w [] (by decide +kernel) (by refine qt_iload_n (x := x0) rfl ?_; refine qt_bipush qb_122 ?_; exact qt_z rfl rfl rfl rfl rfl) trivial ?_
    refine s_icmp (cd := .gt) (off := 7) 16 (by decide +kernel) (by decide) (fun hc => ?_) (fun hc => ?_)
    · replace h := h.1 hc
      refine s_blk [(.iconst 0, 1, 0, 0)] 17 [some (.int (x0))] [.int (0)] w [] (by decide +kernel) (by refine qt_iconst qc_0 ?_; exact qt_z rfl rfl rfl rfl rfl) trivial ?_
      exact s_retI .boolean (by decide +kernel) rfl rfl h
    · replace h := h.2 hc
      refine s_blk [(.iconst 1, 1, 0, 0), (.goto 4, 3, 17, 0)] 17 [some (.int (x0))] [.int (1)] w [] (by decide +kernel) (by refine qt_iconst qc_1 ?_; refine qt_goto ?_; exact qt_z rfl rfl rfl rfl rfl) trivial ?_
      exact s_retI .boolean (by decide +kernel) rfl rfl h
theorem eX10_isLetter {d : Nat} {x0 : Int32} {w : q_Sm} {Q : s_Po} {X : s_Xo} (h : vX10_isLetter_0 d x0 w Q X) : s_Ev (d + 1) 0 mX10_isLetter w [.int (x0)] Q X := s_of (by decide +kernel) rfl (Nat.le_of_ble_eq_true rfl) (xX10_isLetter_0 h)
def vX2_read_0 (d : Nat) (o0 : Nat) (w : q_Sm) (Q : s_Po) (X : s_Xo) : Prop := q_id 116 2 o0 ∧ s_EvV d 0 mX2_clear w [.ref (o0)] (fun u2 => s_Ex (d + 1) 0 mX2_read 6 [some (.ref (o0)), some (.ref (2)), some (.int (0))] [] u2 Q X) X
def vX2_read_6 (d : Nat) (o0 : Nat) (x2 : Int32) (w : q_Sm) (Q : s_Po) (X : s_Xo) : Prop := ((60 < x2) → q_id 116 2 o0 ∧ s_EvV d 0 mX2_orderByTerm w [.ref (o0)] (fun u4 => Q none u4) X) ∧ (¬ (60 < x2) → s_EvI d 0 mX10_goesOn w [.ref (2)] (fun v5 u6 => ((v5 = 0) → q_id 116 2 o0 ∧ s_EvV d 0 mX2_orderByTerm u6 [.ref (o0)] (fun u8 => Q none u8) X) ∧ (¬ (v5 = 0) → ((60 ≤ x2) → q_id 116 2 o0 ∧ s_EvV d 0 mX2_readClause u6 [.ref (o0), .ref (2), .int (0)] (fun u10 => s_EvV d 0 mX10_need u10 [.ref (2), .int (59)] (fun u12 => s_Ex (d + 1) 0 mX2_read 6 [some (.ref (o0)), some (.ref (2)), some (.int (x2 + 1))] [] u12 Q X) X) X) ∧ (¬ (60 ≤ x2) → q_id 116 2 o0 ∧ s_EvV d 0 mX2_readClause u6 [.ref (o0), .ref (2), .int (1)] (fun u14 => s_EvV d 0 mX10_need u14 [.ref (2), .int (59)] (fun u16 => s_Ex (d + 1) 0 mX2_read 6 [some (.ref (o0)), some (.ref (2)), some (.int (x2 + 1))] [] u16 Q X) X) X))) X)
theorem xX2_read_0 {d : Nat} {o0 : Nat} {w : q_Sm} {Q : s_Po} {X : s_Xo} (h : vX2_read_0 d o0 w Q X) : s_Ex (d + 1) 0 mX2_read 0 [some (.ref (o0)), some (.ref (2)), none] [] w Q X := by
  unfold vX2_read_0 at h
  refine s_blk [(.aload_n 0, 1, 0, 0)] 1 [some (.ref (o0)), some (.ref (2)), none] [.ref (o0)] w [] (by decide +kernel) (by refine qt_aload_n (r := o0) rfl ?_; exact qt_z rfl rfl rfl rfl rfl) trivial ?_
  obtain ⟨hid, h⟩ := h
  refine s_callV (a := 0) (a' := 0) (As := []) (id := o0) (st := []) kX2_clear l_2_57 (by decide +kernel) hid rfl (Nat.le_of_ble_eq_true rfl) (s_mono h (s_V_of (fun u2 h => ?_)) (fun _ _ h9 => h9))
  show s_Ex (d + 1) 0 mX2_read 4 [some (.ref (o0)), some (.ref (2)), none] [] u2 Q X
  refine s_blk [(.iconst 0, 1, 0, 0), (.istore_n 2, 1, 0, 0)] 6 [some (.ref (o0)), some (.ref (2)), some (.int (0))] [] u2 [] (by decide +kernel) (by refine qt_iconst qc_0 ?_; refine qt_istore_n (L' := [some (.ref (o0)), some (.ref (2)), some (.int (0))]) rfl ?_; exact qt_z rfl rfl rfl rfl rfl) trivial ?_
  exact h
theorem xX2_read_6 {d : Nat} {o0 : Nat} {x2 : Int32} {w : q_Sm} {Q : s_Po} {X : s_Xo} (h : vX2_read_6 d o0 x2 w Q X) : s_Ex (d + 1) 0 mX2_read 6 [some (.ref (o0)), some (.ref (2)), some (.int (x2))] [] w Q X := by
  unfold vX2_read_6 at h
  refine s_blk [(.iload_n 2, 1, 0, 0), (.bipush 60, 2, 0, 0)] 9 [some (.ref (o0)), some (.ref (2)), some (.int (x2))] [.int (60), .int (x2)] w [] (by decide +kernel) (by refine qt_iload_n (x := x2) rfl ?_; refine qt_bipush qb_60 ?_; exact qt_z rfl rfl rfl rfl rfl) trivial ?_
  refine s_icmp (cd := .gt) (off := 38) 47 (by decide +kernel) (by decide) (fun hc => ?_) (fun hc => ?_)
  · replace h := h.1 hc
    refine s_blk [(.aload_n 0, 1, 0, 0)] 48 [some (.ref (o0)), some (.ref (2)), some (.int (x2))] [.ref (o0)] w [] (by decide +kernel) (by refine qt_aload_n (r := o0) rfl ?_; exact qt_z rfl rfl rfl rfl rfl) trivial ?_
    obtain ⟨hid, h⟩ := h
    refine s_callV (a := 0) (a' := 0) (As := []) (id := o0) (st := []) kX2_orderByTerm l_2_74 (by decide +kernel) hid rfl (Nat.le_of_ble_eq_true rfl) (s_mono h (s_V_of (fun u4 h => ?_)) (fun _ _ h9 => h9))
    show s_Ex (d + 1) 0 mX2_read 51 [some (.ref (o0)), some (.ref (2)), some (.int (x2))] [] u4 Q X
    exact s_retV (by decide +kernel) rfl h
  · replace h := h.2 hc
    refine s_blk [(.aload_n 1, 1, 0, 0)] 13 [some (.ref (o0)), some (.ref (2)), some (.int (x2))] [.ref (2)] w [] (by decide +kernel) (by refine qt_aload_n (r := 2) rfl ?_; exact qt_z rfl rfl rfl rfl rfl) trivial ?_
    refine s_callV (a := 0) (a' := 0) (As := []) (id := 2) (st := []) kX10_goesOn l_2_60 (by decide +kernel) (q_id_of rfl) rfl (Nat.le_of_ble_eq_true rfl) (s_mono h (s_I_of (fun v5 u6 h => ?_)) (fun _ _ h9 => h9))
    show s_Ex (d + 1) 0 mX2_read 16 [some (.ref (o0)), some (.ref (2)), some (.int (x2))] [.int (v5)] u6 Q X
    refine s_if (cd := .eq) (off := 31) 47 (by decide +kernel) (by decide) (fun hc => ?_) (fun hc => ?_)
    · replace h := h.1 hc
      refine s_blk [(.aload_n 0, 1, 0, 0)] 48 [some (.ref (o0)), some (.ref (2)), some (.int (x2))] [.ref (o0)] u6 [] (by decide +kernel) (by refine qt_aload_n (r := o0) rfl ?_; exact qt_z rfl rfl rfl rfl rfl) trivial ?_
      obtain ⟨hid, h⟩ := h
      refine s_callV (a := 0) (a' := 0) (As := []) (id := o0) (st := []) kX2_orderByTerm l_2_74 (by decide +kernel) hid rfl (Nat.le_of_ble_eq_true rfl) (s_mono h (s_V_of (fun u8 h => ?_)) (fun _ _ h9 => h9))
      show s_Ex (d + 1) 0 mX2_read 51 [some (.ref (o0)), some (.ref (2)), some (.int (x2))] [] u8 Q X
      exact s_retV (by decide +kernel) rfl h
    · replace h := h.2 hc
      refine s_blk [(.aload_n 0, 1, 0, 0), (.aload_n 1, 1, 0, 0), (.iload_n 2, 1, 0, 0), (.bipush 60, 2, 0, 0)] 24 [some (.ref (o0)), some (.ref (2)), some (.int (x2))] [.int (60), .int (x2), .ref (2), .ref (o0)] u6 [] (by decide +kernel) (by refine qt_aload_n (r := o0) rfl ?_; refine qt_aload_n (r := 2) rfl ?_; refine qt_iload_n (x := x2) rfl ?_; refine qt_bipush qb_60 ?_; exact qt_z rfl rfl rfl rfl rfl) trivial ?_
      refine s_icmp (cd := .ge) (off := 7) 31 (by decide +kernel) (by decide) (fun hc => ?_) (fun hc => ?_)
      · replace h := h.1 hc
        refine s_blk [(.iconst 0, 1, 0, 0)] 32 [some (.ref (o0)), some (.ref (2)), some (.int (x2))] [.int (0), .ref (2), .ref (o0)] u6 [] (by decide +kernel) (by refine qt_iconst qc_0 ?_; exact qt_z rfl rfl rfl rfl rfl) trivial ?_
        obtain ⟨hid, h⟩ := h
        refine s_callV (a := 0) (a' := 0) (As := [.ref (2), .int (0)]) (id := o0) (st := []) kX2_readClause l_2_66 (by decide +kernel) hid rfl (Nat.le_of_ble_eq_true rfl) (s_mono h (s_V_of (fun u10 h => ?_)) (fun _ _ h9 => h9))
        show s_Ex (d + 1) 0 mX2_read 35 [some (.ref (o0)), some (.ref (2)), some (.int (x2))] [] u10 Q X
        refine s_blk [(.aload_n 1, 1, 0, 0), (.bipush 59, 2, 0, 0)] 38 [some (.ref (o0)), some (.ref (2)), some (.int (x2))] [.int (59), .ref (2)] u10 [] (by decide +kernel) (by refine qt_aload_n (r := 2) rfl ?_; refine qt_bipush qb_59 ?_; exact qt_z rfl rfl rfl rfl rfl) trivial ?_
        refine s_callV (a := 0) (a' := 0) (As := [.int (59)]) (id := 2) (st := []) kX10_need l_2_70 (by decide +kernel) (q_id_of rfl) rfl (Nat.le_of_ble_eq_true rfl) (s_mono h (s_V_of (fun u12 h => ?_)) (fun _ _ h9 => h9))
        show s_Ex (d + 1) 0 mX2_read 41 [some (.ref (o0)), some (.ref (2)), some (.int (x2))] [] u12 Q X
        refine s_blk [(.iinc 2 1, 3, 0, 0), (.goto (-38), 3, 6, 0)] 6 [some (.ref (o0)), some (.ref (2)), some (.int (x2 + 1))] [] u12 [] (by decide +kernel) (by refine qt_iinc (x := x2) (L' := [some (.ref (o0)), some (.ref (2)), some (.int (x2 + 1))]) rfl qc_1 rfl ?_; refine qt_goto ?_; exact qt_z rfl rfl rfl rfl rfl) trivial ?_
        exact h
      · replace h := h.2 hc
        refine s_blk [(.iconst 1, 1, 0, 0), (.goto 4, 3, 32, 0)] 32 [some (.ref (o0)), some (.ref (2)), some (.int (x2))] [.int (1), .ref (2), .ref (o0)] u6 [] (by decide +kernel) (by refine qt_iconst qc_1 ?_; refine qt_goto ?_; exact qt_z rfl rfl rfl rfl rfl) trivial ?_
        obtain ⟨hid, h⟩ := h
        refine s_callV (a := 0) (a' := 0) (As := [.ref (2), .int (1)]) (id := o0) (st := []) kX2_readClause l_2_66 (by decide +kernel) hid rfl (Nat.le_of_ble_eq_true rfl) (s_mono h (s_V_of (fun u14 h => ?_)) (fun _ _ h9 => h9))
        show s_Ex (d + 1) 0 mX2_read 35 [some (.ref (o0)), some (.ref (2)), some (.int (x2))] [] u14 Q X
        refine s_blk [(.aload_n 1, 1, 0, 0), (.bipush 59, 2, 0, 0)] 38 [some (.ref (o0)), some (.ref (2)), some (.int (x2))] [.int (59), .ref (2)] u14 [] (by decide +kernel) (by refine qt_aload_n (r := 2) rfl ?_; refine qt_bipush qb_59 ?_; exact qt_z rfl rfl rfl rfl rfl) trivial ?_
        refine s_callV (a := 0) (a' := 0) (As := [.int (59)]) (id := 2) (st := []) kX10_need l_2_70 (by decide +kernel) (q_id_of rfl) rfl (Nat.le_of_ble_eq_true rfl) (s_mono h (s_V_of (fun u16 h => ?_)) (fun _ _ h9 => h9))
        show s_Ex (d + 1) 0 mX2_read 41 [some (.ref (o0)), some (.ref (2)), some (.int (x2))] [] u16 Q X
        refine s_blk [(.iinc 2 1, 3, 0, 0), (.goto (-38), 3, 6, 0)] 6 [some (.ref (o0)), some (.ref (2)), some (.int (x2 + 1))] [] u16 [] (by decide +kernel) (by refine qt_iinc (x := x2) (L' := [some (.ref (o0)), some (.ref (2)), some (.int (x2 + 1))]) rfl qc_1 rfl ?_; refine qt_goto ?_; exact qt_z rfl rfl rfl rfl rfl) trivial ?_
        exact h
theorem eX2_read {d : Nat} {o0 : Nat} {w : q_Sm} {Q : s_Po} {X : s_Xo} (h : vX2_read_0 d o0 w Q X) : s_Ev (d + 1) 0 mX2_read w [.ref (o0), .ref (2)] Q X := s_of (by decide +kernel) rfl (Nat.le_of_ble_eq_true rfl) (xX2_read_0 h)
def vX2_clear_0 (d : Nat) (o0 : Nat) (w : q_Sm) (Q : s_Po) (X : s_Xo) : Prop := (q_id 116 2 o0) ∧ ∀ w_1 : q_Sm, w_1 = q_wI w o0 0 0 → (q_id 116 2 o0) ∧ ∀ w_2 : q_Sm, w_2 = q_wI w_1 o0 3 0 → (q_id 116 2 o0) ∧ ∀ w_3 : q_Sm, w_3 = q_wI w_2 o0 10 0 → (q_id 116 2 o0) ∧ ∀ w_4 : q_Sm, w_4 = q_wI w_3 o0 14 0 → (q_id 116 2 o0) ∧ ∀ w_5 : q_Sm, w_5 = q_wI w_4 o0 18 0 → (q_id 116 2 o0) ∧ s_EvV d 0 mK_fill w_5 [.ref (o0 + 10), .int (0)] (fun u7 => (q_id 116 2 o0) ∧ s_EvV d 0 mK_fill u7 [.ref (o0 + 11), .int (0)] (fun u9 => (q_id 116 2 o0) ∧ s_EvV d 0 mK_fill u9 [.ref (o0 + 15), .int (0)] (fun u11 => Q none u11) X) X) X
theorem xX2_clear_0 {d : Nat} {o0 : Nat} {w : q_Sm} {Q : s_Po} {X : s_Xo} (h : vX2_clear_0 d o0 w Q X) : s_Ex (d + 1) 0 mX2_clear 0 [some (.ref (o0))] [] w Q X := by
  unfold vX2_clear_0 at h
  obtain ⟨ho14, h⟩ := h
  replace h := h _ rfl
  obtain ⟨ho15, h⟩ := h
  replace h := h _ rfl
  obtain ⟨ho16, h⟩ := h
  replace h := h _ rfl
  obtain ⟨ho17, h⟩ := h
  replace h := h _ rfl
  obtain ⟨ho18, h⟩ := h
  replace h := h _ rfl
  obtain ⟨ho19, h⟩ := h
  refine s_blk [(.aload_n 0, 1, 0, 0), (.iconst 0, 1, 0, 0), (.putfield 77, 3, 2, 0), (.aload_n 0, 1, 0, 0), (.iconst 0, 1, 0, 0), (.putfield 81, 3, 2, 3), (.aload_n 0, 1, 0, 0), (.iconst 0, 1, 0, 0), (.putfield 84, 3, 2, 10), (.aload_n 0, 1, 0, 0), (.iconst 0, 1, 0, 0), (.putfield 87, 3, 2, 14), (.aload_n 0, 1, 0, 0), (.iconst 0, 1, 0, 0), (.putfield 90, 3, 2, 18), (.aload_n 0, 1, 0, 0), (.getfield 39, 3, 2, 12), (.iconst 0, 1, 0, 0)] 30 [some (.ref (o0))] [.int (0), .ref (o0 + 10)] (q_wI (q_wI (q_wI (q_wI (q_wI w o0 0 0) o0 3 0) o0 10 0) o0 14 0) o0 18 0) [q_id 116 2 o0, q_id 116 2 o0, q_id 116 2 o0, q_id 116 2 o0, q_id 116 2 o0, q_id 116 2 o0] (by decide +kernel) (by refine qt_aload_n (r := o0) rfl ?_; refine qt_iconst qc_0 ?_; refine qt_putI rfl ?_; refine qt_aload_n (r := o0) rfl ?_; refine qt_iconst qc_0 ?_; refine qt_putI rfl ?_; refine qt_aload_n (r := o0) rfl ?_; refine qt_iconst qc_0 ?_; refine qt_putI rfl ?_; refine qt_aload_n (r := o0) rfl ?_; refine qt_iconst qc_0 ?_; refine qt_putI rfl ?_; refine qt_aload_n (r := o0) rfl ?_; refine qt_iconst qc_0 ?_; refine qt_putI rfl ?_; refine qt_aload_n (r := o0) rfl ?_; refine qt_getR (r := o0 + 10) rfl rfl rfl ?_; refine qt_iconst qc_0 ?_; exact qt_z rfl rfl rfl rfl rfl) ⟨ho14, ho15, ho16, ho17, ho18, ho19⟩ ?_
  refine s_callS (a := 0) (a' := 0) (As := [.ref (o0 + 10), .int (0)]) (st := []) kK_fill l_2_93 (by decide +kernel) rfl (Nat.le_of_ble_eq_true rfl) (s_mono h (s_V_of (fun u7 h => ?_)) (fun _ _ h9 => h9))
  show s_Ex (d + 1) 0 mX2_clear 33 [some (.ref (o0))] [] u7 Q X
  obtain ⟨ho13, h⟩ := h
  refine s_blk [(.aload_n 0, 1, 0, 0), (.getfield 42, 3, 2, 13), (.iconst 0, 1, 0, 0)] 38 [some (.ref (o0))] [.int (0), .ref (o0 + 11)] u7 [q_id 116 2 o0] (by decide +kernel) (by refine qt_aload_n (r := o0) rfl ?_; refine qt_getR (r := o0 + 11) rfl rfl rfl ?_; refine qt_iconst qc_0 ?_; exact qt_z rfl rfl rfl rfl rfl) ho13 ?_
  refine s_callS (a := 0) (a' := 0) (As := [.ref (o0 + 11), .int (0)]) (st := []) kK_fill l_2_93 (by decide +kernel) rfl (Nat.le_of_ble_eq_true rfl) (s_mono h (s_V_of (fun u9 h => ?_)) (fun _ _ h9 => h9))
  show s_Ex (d + 1) 0 mX2_clear 41 [some (.ref (o0))] [] u9 Q X
  obtain ⟨ho12, h⟩ := h
  refine s_blk [(.aload_n 0, 1, 0, 0), (.getfield 54, 3, 2, 19), (.iconst 0, 1, 0, 0)] 46 [some (.ref (o0))] [.int (0), .ref (o0 + 15)] u9 [q_id 116 2 o0] (by decide +kernel) (by refine qt_aload_n (r := o0) rfl ?_; refine qt_getR (r := o0 + 15) rfl rfl rfl ?_; refine qt_iconst qc_0 ?_; exact qt_z rfl rfl rfl rfl rfl) ho12 ?_
  refine s_callS (a := 0) (a' := 0) (As := [.ref (o0 + 15), .int (0)]) (st := []) kK_fill l_2_93 (by decide +kernel) rfl (Nat.le_of_ble_eq_true rfl) (s_mono h (s_V_of (fun u11 h => ?_)) (fun _ _ h9 => h9))
  show s_Ex (d + 1) 0 mX2_clear 49 [some (.ref (o0))] [] u11 Q X
  exact s_retV (by decide +kernel) rfl h
theorem eX2_clear {d : Nat} {o0 : Nat} {w : q_Sm} {Q : s_Po} {X : s_Xo} (h : vX2_clear_0 d o0 w Q X) : s_Ev (d + 1) 0 mX2_clear w [.ref (o0)] Q X := s_of (by decide +kernel) rfl (Nat.le_of_ble_eq_true rfl) (xX2_clear_0 h)
def vX2_readClause_0 (d : Nat) (o0 : Nat) (x2 : Int32) (w : q_Sm) (Q : s_Po) (X : s_Xo) : Prop := s_EvV d 0 mX10_word w [.ref (2)] (fun u2 => s_EvI d 0 mX10_startOfLast u2 [.ref (2)] (fun v3 u4 => s_EvI d 0 mX10_was u4 [.ref (2), .retAddr (0)] (fun v5 u6 => ((v5 = 0) → s_EvI d 0 mX10_was u6 [.ref (2), .retAddr (1)] (fun v7 u8 => ((v7 = 0) → s_EvI d 0 mX10_was u8 [.ref (2), .retAddr (6)] (fun v9 u10 => ((v9 = 0) → s_EvI d 0 mX10_was u10 [.ref (2), .retAddr (7)] (fun v11 u12 => ((v11 = 0) → s_EvI d 0 mX10_was u12 [.ref (2), .retAddr (8)] (fun v13 u14 => ((v13 = 0) → s_EvI d 0 mX10_was u14 [.ref (2), .retAddr (9)] (fun v15 u16 => ((v15 = 0) → s_EvI d 0 mX10_was u16 [.ref (2), .retAddr (10)] (fun v17 u18 => ((v17 = 0) → s_EvI d 0 mX10_was u18 [.ref (2), .retAddr (11)] (fun v19 u20 => ((v19 = 0) → s_EvV d 0 mX10_blame u20 [.ref (2), .int (1), .int (v3)] (fun u22 => Q none u22) X) ∧ (¬ (v19 = 0) → s_EvV d 0 mX2_admit u20 [.ref (2), .int (v3), .int (x2)] (fun u24 => q_id 116 2 o0 ∧ s_EvV d 0 mX2_readLoan u24 [.ref (o0), .ref (2)] (fun u26 => Q none u26) X) X)) X) ∧ (¬ (v17 = 0) → s_EvV d 0 mX2_admit u18 [.ref (2), .int (v3), .int (x2)] (fun u28 => q_id 116 2 o0 ∧ s_EvV d 0 mX2_readFog u28 [.ref (o0), .ref (2)] (fun u30 => Q none u30) X) X)) X) ∧ (¬ (v15 = 0) → ((x2 = 0) → s_EvV d 0 mX2_admit u16 [.ref (2), .int (v3), .int (0)] (fun u32 => q_id 116 2 o0 ∧ s_EvV d 0 mX2_readWedding u32 [.ref (o0), .ref (2)] (fun u34 => Q none u34) X) X) ∧ (¬ (x2 = 0) → (q_id 116 2 o0) ∧ ((6 ≤ (u16.1 o0 14)) → s_EvV d 0 mX2_admit u16 [.ref (2), .int (v3), .int (0)] (fun u36 => q_id 116 2 o0 ∧ s_EvV d 0 mX2_readWedding u36 [.ref (o0), .ref (2)] (fun u38 => Q none u38) X) X) ∧ (¬ (6 ≤ (u16.1 o0 14)) → s_EvV d 0 mX2_admit u16 [.ref (2), .int (v3), .int (1)] (fun u40 => q_id 116 2 o0 ∧ s_EvV d 0 mX2_readWedding u40 [.ref (o0), .ref (2)] (fun u42 => Q none u42) X) X)))) X) ∧ (¬ (v13 = 0) → s_EvV d 0 mX2_admit u14 [.ref (2), .int (v3), .int (x2)] (fun u45 => q_id 116 2 o0 ∧ s_EvV d 0 mX2_readLamp u45 [.ref (o0), .ref (2)] (fun u47 => Q none u47) X) X)) X) ∧ (¬ (v11 = 0) → s_EvV d 0 mX2_admit u12 [.ref (2), .int (v3), .int (x2)] (fun u49 => q_id 116 2 o0 ∧ s_EvV d 0 mX2_readRidge u49 [.ref (o0), .ref (2)] (fun u51 => Q none u51) X) X)) X) ∧ (¬ (v9 = 0) → ((x2 = 0) → s_EvV d 0 mX2_admit u10 [.ref (2), .int (v3), .int (0)] (fun u53 => q_id 116 2 o0 ∧ s_EvV d 0 mX2_readDusk u53 [.ref (o0), .ref (2)] (fun u55 => Q none u55) X) X) ∧ (¬ (x2 = 0) → (q_id 116 2 o0) ∧ ((12 ≤ (u10.1 o0 10)) → s_EvV d 0 mX2_admit u10 [.ref (2), .int (v3), .int (0)] (fun u57 => q_id 116 2 o0 ∧ s_EvV d 0 mX2_readDusk u57 [.ref (o0), .ref (2)] (fun u59 => Q none u59) X) X) ∧ (¬ (12 ≤ (u10.1 o0 10)) → s_EvV d 0 mX2_admit u10 [.ref (2), .int (v3), .int (1)] (fun u61 => q_id 116 2 o0 ∧ s_EvV d 0 mX2_readDusk u61 [.ref (o0), .ref (2)] (fun u63 => Q none u63) X) X)))) X) ∧ (¬ (v7 = 0) → ((x2 = 0) → s_EvV d 0 mX2_admit u8 [.ref (2), .int (v3), .int (0)] (fun u66 => q_id 116 2 o0 ∧ s_EvV d 0 mX2_readDebt u66 [.ref (o0), .ref (2)] (fun u68 => Q none u68) X) X) ∧ (¬ (x2 = 0) → (q_id 116 2 o0) ∧ ((10 ≤ (u8.1 o0 3)) → s_EvV d 0 mX2_admit u8 [.ref (2), .int (v3), .int (0)] (fun u70 => q_id 116 2 o0 ∧ s_EvV d 0 mX2_readDebt u70 [.ref (o0), .ref (2)] (fun u72 => Q none u72) X) X) ∧ (¬ (10 ≤ (u8.1 o0 3)) → s_EvV d 0 mX2_admit u8 [.ref (2), .int (v3), .int (1)] (fun u74 => q_id 116 2 o0 ∧ s_EvV d 0 mX2_readDebt u74 [.ref (o0), .ref (2)] (fun u76 => Q none u76) X) X)))) X) ∧ (¬ (v5 = 0) → ((x2 = 0) → s_EvV d 0 mX2_admit u6 [.ref (2), .int (v3), .int (0)] (fun u79 => q_id 116 2 o0 ∧ s_EvV d 0 mX2_readCreditor u79 [.ref (o0), .ref (2)] (fun u81 => Q none u81) X) X) ∧ (¬ (x2 = 0) → (q_id 116 2 o0) ∧ ((6 ≤ (u6.1 o0 0)) → s_EvV d 0 mX2_admit u6 [.ref (2), .int (v3), .int (0)] (fun u83 => q_id 116 2 o0 ∧ s_EvV d 0 mX2_readCreditor u83 [.ref (o0), .ref (2)] (fun u85 => Q none u85) X) X) ∧ (¬ (6 ≤ (u6.1 o0 0)) → s_EvV d 0 mX2_admit u6 [.ref (2), .int (v3), .int (1)] (fun u87 => q_id 116 2 o0 ∧ s_EvV d 0 mX2_readCreditor u87 [.ref (o0), .ref (2)] (fun u89 => Q none u89) X) X)))) X) X) X
theorem xX2_readClause_0 {d : Nat} {o0 : Nat} {x2 : Int32} {w : q_Sm} {Q : s_Po} {X : s_Xo} (h : vX2_readClause_0 d o0 x2 w Q X) : s_Ex (d + 1) 0 mX2_readClause 0 [some (.ref (o0)), some (.ref (2)), some (.int (x2)), none] [] w Q X := by
  unfold vX2_readClause_0 at h
  refine s_blk [(.aload_n 1, 1, 0, 0)] 1 [some (.ref (o0)), some (.ref (2)), some (.int (x2)), none] [.ref (2)] w [] (by decide +kernel) (by refine qt_aload_n (r := 2) rfl ?_; exact qt_z rfl rfl rfl rfl rfl) trivial ?_
  refine s_callV (a := 0) (a' := 0) (As := []) (id := 2) (st := []) kX10_word l_2_99 (by decide +kernel) (q_id_of rfl) rfl (Nat.le_of_ble_eq_true rfl) (s_mono h (s_V_of (fun u2 h => ?_)) (fun _ _ h9 => h9))
  show s_Ex (d + 1) 0 mX2_readClause 4 [some (.ref (o0)), some (.ref (2)), some (.int (x2)), none] [] u2 Q X
  refine s_blk [(.aload_n 1, 1, 0, 0)] 5 [some (.ref (o0)), some (.ref (2)), some (.int (x2)), none] [.ref (2)] u2 [] (by decide +kernel) (by refine qt_aload_n (r := 2) rfl ?_; exact qt_z rfl rfl rfl rfl rfl) trivial ?_
  refine s_callV (a := 0) (a' := 0) (As := []) (id := 2) (st := []) kX10_startOfLast l_2_102 (by decide +kernel) (q_id_of rfl) rfl (Nat.le_of_ble_eq_true rfl) (s_mono h (s_I_of (fun v3 u4 h => ?_)) (fun _ _ h9 => h9))
  show s_Ex (d + 1) 0 mX2_readClause 8 [some (.ref (o0)), some (.ref (2)), some (.int (x2)), none] [.int (v3)] u4 Q X
  refine s_blk [(.istore_n 3, 1, 0, 0), (.aload_n 1, 1, 0, 0), (.ldc 106, 2, 1, 0)] 12 [some (.ref (o0)), some (.ref (2)), some (.int (x2)), some (.int (v3))] [.retAddr (0), .ref (2)] u4 [] (by decide +kernel) (by refine qt_istore_n (L' := [some (.ref (o0)), some (.ref (2)), some (.int (x2)), some (.int (v3))]) rfl ?_; refine qt_aload_n (r := 2) rfl ?_; refine qt_ldcS ?_; exact qt_z rfl rfl rfl rfl rfl) trivial ?_
  refine s_callV (a := 0) (a' := 0) (As := [.retAddr (0)]) (id := 2) (st := []) kX10_was l_2_108 (by decide +kernel) (q_id_of rfl) rfl (Nat.le_of_ble_eq_true rfl) (s_mono h (s_I_of (fun v5 u6 h => ?_)) (fun _ _ h9 => h9))
  show s_Ex (d + 1) 0 mX2_readClause 15 [some (.ref (o0)), some (.ref (2)), some (.int (x2)), some (.int (v3))] [.int (v5)] u6 Q X
  refine s_if (cd := .eq) (off := 34) 49 (by decide +kernel) (by decide) (fun hc => ?_) (fun hc => ?_)
  · replace h := h.1 hc
    refine s_blk [(.aload_n 1, 1, 0, 0), (.ldc 120, 2, 1, 1)] 52 [some (.ref (o0)), some (.ref (2)), some (.int (x2)), some (.int (v3))] [.retAddr (1), .ref (2)] u6 [] (by decide +kernel) (by refine qt_aload_n (r := 2) rfl ?_; refine qt_ldcS ?_; exact qt_z rfl rfl rfl rfl rfl) trivial ?_
    refine s_callV (a := 0) (a' := 0) (As := [.retAddr (1)]) (id := 2) (st := []) kX10_was l_2_108 (by decide +kernel) (q_id_of rfl) rfl (Nat.le_of_ble_eq_true rfl) (s_mono h (s_I_of (fun v7 u8 h => ?_)) (fun _ _ h9 => h9))
    show s_Ex (d + 1) 0 mX2_readClause 55 [some (.ref (o0)), some (.ref (2)), some (.int (x2)), some (.int (v3))] [.int (v7)] u8 Q X
    refine s_if (cd := .eq) (off := 34) 89 (by decide +kernel) (by decide) (fun hc => ?_) (fun hc => ?_)
    · replace h := h.1 hc
      refine s_blk [(.aload_n 1, 1, 0, 0), (.ldc 125, 2, 1, 6)] 92 [some (.ref (o0)), some (.ref (2)), some (.int (x2)), some (.int (v3))] [.retAddr (6), .ref (2)] u8 [] (by decide +kernel) (by refine qt_aload_n (r := 2) rfl ?_; refine qt_ldcS ?_; exact qt_z rfl rfl rfl rfl rfl) trivial ?_
      refine s_callV (a := 0) (a' := 0) (As := [.retAddr (6)]) (id := 2) (st := []) kX10_was l_2_108 (by decide +kernel) (q_id_of rfl) rfl (Nat.le_of_ble_eq_true rfl) (s_mono h (s_I_of (fun v9 u10 h => ?_)) (fun _ _ h9 => h9))
      show s_Ex (d + 1) 0 mX2_readClause 95 [some (.ref (o0)), some (.ref (2)), some (.int (x2)), some (.int (v3))] [.int (v9)] u10 Q X
      refine s_if (cd := .eq) (off := 34) 129 (by decide +kernel) (by decide) (fun hc => ?_) (fun hc => ?_)
      · replace h := h.1 hc
        refine s_blk [(.aload_n 1, 1, 0, 0), (.ldc 130, 2, 1, 7)] 132 [some (.ref (o0)), some (.ref (2)), some (.int (x2)), some (.int (v3))] [.retAddr (7), .ref (2)] u10 [] (by decide +kernel) (by refine qt_aload_n (r := 2) rfl ?_; refine qt_ldcS ?_; exact qt_z rfl rfl rfl rfl rfl) trivial ?_
        refine s_callV (a := 0) (a' := 0) (As := [.retAddr (7)]) (id := 2) (st := []) kX10_was l_2_108 (by decide +kernel) (q_id_of rfl) rfl (Nat.le_of_ble_eq_true rfl) (s_mono h (s_I_of (fun v11 u12 h => ?_)) (fun _ _ h9 => h9))
        show s_Ex (d + 1) 0 mX2_readClause 135 [some (.ref (o0)), some (.ref (2)), some (.int (x2)), some (.int (v3))] [.int (v11)] u12 Q X
        refine s_if (cd := .eq) (off := 17) 152 (by decide +kernel) (by decide) (fun hc => ?_) (fun hc => ?_)
        · replace h := h.1 hc
          refine s_blk [(.aload_n 1, 1, 0, 0), (.ldc 134, 2, 1, 8)] 155 [some (.ref (o0)), some (.ref (2)), some (.int (x2)), some (.int (v3))] [.retAddr (8), .ref (2)] u12 [] (by decide +kernel) (by refine qt_aload_n (r := 2) rfl ?_; refine qt_ldcS ?_; exact qt_z rfl rfl rfl rfl rfl) trivial ?_
          refine s_callV (a := 0) (a' := 0) (As := [.retAddr (8)]) (id := 2) (st := []) kX10_was l_2_108 (by decide +kernel) (q_id_of rfl) rfl (Nat.le_of_ble_eq_true rfl) (s_mono h (s_I_of (fun v13 u14 h => ?_)) (fun _ _ h9 => h9))
          show s_Ex (d + 1) 0 mX2_readClause 158 [some (.ref (o0)), some (.ref (2)), some (.int (x2)), some (.int (v3))] [.int (v13)] u14 Q X
          refine s_if (cd := .eq) (off := 17) 175 (by decide +kernel) (by decide) (fun hc => ?_) (fun hc => ?_)
          · replace h := h.1 hc
            refine s_blk [(.aload_n 1, 1, 0, 0), (.ldc 138, 2, 1, 9)] 178 [some (.ref (o0)), some (.ref (2)), some (.int (x2)), some (.int (v3))] [.retAddr (9), .ref (2)] u14 [] (by decide +kernel) (by refine qt_aload_n (r := 2) rfl ?_; refine qt_ldcS ?_; exact qt_z rfl rfl rfl rfl rfl) trivial ?_
            refine s_callV (a := 0) (a' := 0) (As := [.retAddr (9)]) (id := 2) (st := []) kX10_was l_2_108 (by decide +kernel) (q_id_of rfl) rfl (Nat.le_of_ble_eq_true rfl) (s_mono h (s_I_of (fun v15 u16 h => ?_)) (fun _ _ h9 => h9))
            show s_Ex (d + 1) 0 mX2_readClause 181 [some (.ref (o0)), some (.ref (2)), some (.int (x2)), some (.int (v3))] [.int (v15)] u16 Q X
            refine s_if (cd := .eq) (off := 34) 215 (by decide +kernel) (by decide) (fun hc => ?_) (fun hc => ?_)
            · replace h := h.1 hc
              refine s_blk [(.aload_n 1, 1, 0, 0), (.ldc 143, 2, 1, 10)] 218 [some (.ref (o0)), some (.ref (2)), some (.int (x2)), some (.int (v3))] [.retAddr (10), .ref (2)] u16 [] (by decide +kernel) (by refine qt_aload_n (r := 2) rfl ?_; refine qt_ldcS ?_; exact qt_z rfl rfl rfl rfl rfl) trivial ?_
              refine s_callV (a := 0) (a' := 0) (As := [.retAddr (10)]) (id := 2) (st := []) kX10_was l_2_108 (by decide +kernel) (q_id_of rfl) rfl (Nat.le_of_ble_eq_true rfl) (s_mono h (s_I_of (fun v17 u18 h => ?_)) (fun _ _ h9 => h9))
              show s_Ex (d + 1) 0 mX2_readClause 221 [some (.ref (o0)), some (.ref (2)), some (.int (x2)), some (.int (v3))] [.int (v17)] u18 Q X
              refine s_if (cd := .eq) (off := 17) 238 (by decide +kernel) (by decide) (fun hc => ?_) (fun hc => ?_)
              · replace h := h.1 hc
                refine s_blk [(.aload_n 1, 1, 0, 0), (.ldc 147, 2, 1, 11)] 241 [some (.ref (o0)), some (.ref (2)), some (.int (x2)), some (.int (v3))] [.retAddr (11), .ref (2)] u18 [] (by decide +kernel) (by refine qt_aload_n (r := 2) rfl ?_; refine qt_ldcS ?_; exact qt_z rfl rfl rfl rfl rfl) trivial ?_
                refine s_callV (a := 0) (a' := 0) (As := [.retAddr (11)]) (id := 2) (st := []) kX10_was l_2_108 (by decide +kernel) (q_id_of rfl) rfl (Nat.le_of_ble_eq_true rfl) (s_mono h (s_I_of (fun v19 u20 h => ?_)) (fun _ _ h9 => h9))
                show s_Ex (d + 1) 0 mX2_readClause 244 [some (.ref (o0)), some (.ref (2)), some (.int (x2)), some (.int (v3))] [.int (v19)] u20 Q X
                refine s_if (cd := .eq) (off := 17) 261 (by decide +kernel) (by decide) (fun hc => ?_) (fun hc => ?_)
                · replace h := h.1 hc
                  refine s_blk [(.aload_n 1, 1, 0, 0), (.iconst 1, 1, 0, 0), (.iload_n 3, 1, 0, 0)] 264 [some (.ref (o0)), some (.ref (2)), some (.int (x2)), some (.int (v3))] [.int (v3), .int (1), .ref (2)] u20 [] (by decide +kernel) (by refine qt_aload_n (r := 2) rfl ?_; refine qt_iconst qc_1 ?_; refine qt_iload_n (x := v3) rfl ?_; exact qt_z rfl rfl rfl rfl rfl) trivial ?_
                  refine s_callV (a := 0) (a' := 0) (As := [.int (1), .int (v3)]) (id := 2) (st := []) kX10_blame l_2_152 (by decide +kernel) (q_id_of rfl) rfl (Nat.le_of_ble_eq_true rfl) (s_mono h (s_V_of (fun u22 h => ?_)) (fun _ _ h9 => h9))
                  show s_Ex (d + 1) 0 mX2_readClause 267 [some (.ref (o0)), some (.ref (2)), some (.int (x2)), some (.int (v3))] [] u22 Q X
                  exact s_retV (by decide +kernel) rfl h
                · replace h := h.2 hc
                  refine s_blk [(.aload_n 1, 1, 0, 0), (.iload_n 3, 1, 0, 0), (.iload_n 2, 1, 0, 0)] 250 [some (.ref (o0)), some (.ref (2)), some (.int (x2)), some (.int (v3))] [.int (x2), .int (v3), .ref (2)] u20 [] (by decide +kernel) (by refine qt_aload_n (r := 2) rfl ?_; refine qt_iload_n (x := v3) rfl ?_; refine qt_iload_n (x := x2) rfl ?_; exact qt_z rfl rfl rfl rfl rfl) trivial ?_
                  refine s_callS (a := 0) (a' := 0) (As := [.ref (2), .int (v3), .int (x2)]) (st := []) kX2_admit l_2_112 (by decide +kernel) rfl (Nat.le_of_ble_eq_true rfl) (s_mono h (s_V_of (fun u24 h => ?_)) (fun _ _ h9 => h9))
                  show s_Ex (d + 1) 0 mX2_readClause 253 [some (.ref (o0)), some (.ref (2)), some (.int (x2)), some (.int (v3))] [] u24 Q X
                  refine s_blk [(.aload_n 0, 1, 0, 0), (.aload_n 1, 1, 0, 0)] 255 [some (.ref (o0)), some (.ref (2)), some (.int (x2)), some (.int (v3))] [.ref (2), .ref (o0)] u24 [] (by decide +kernel) (by refine qt_aload_n (r := o0) rfl ?_; refine qt_aload_n (r := 2) rfl ?_; exact qt_z rfl rfl rfl rfl rfl) trivial ?_
                  obtain ⟨hid, h⟩ := h
                  refine s_callV (a := 0) (a' := 0) (As := [.ref (2)]) (id := o0) (st := []) kX2_readLoan l_2_149 (by decide +kernel) hid rfl (Nat.le_of_ble_eq_true rfl) (s_mono h (s_V_of (fun u26 h => ?_)) (fun _ _ h9 => h9))
                  show s_Ex (d + 1) 0 mX2_readClause 258 [some (.ref (o0)), some (.ref (2)), some (.int (x2)), some (.int (v3))] [] u26 Q X
                  refine s_blk [(.goto 9, 3, 267, 0)] 267 [some (.ref (o0)), some (.ref (2)), some (.int (x2)), some (.int (v3))] [] u26 [] (by decide +kernel) (by refine qt_goto ?_; exact qt_z rfl rfl rfl rfl rfl) trivial ?_
                  exact s_retV (by decide +kernel) rfl h
              · replace h := h.2 hc
                refine s_blk [(.aload_n 1, 1, 0, 0), (.iload_n 3, 1, 0, 0), (.iload_n 2, 1, 0, 0)] 227 [some (.ref (o0)), some (.ref (2)), some (.int (x2)), some (.int (v3))] [.int (x2), .int (v3), .ref (2)] u18 [] (by decide +kernel) (by refine qt_aload_n (r := 2) rfl ?_; refine qt_iload_n (x := v3) rfl ?_; refine qt_iload_n (x := x2) rfl ?_; exact qt_z rfl rfl rfl rfl rfl) trivial ?_
                refine s_callS (a := 0) (a' := 0) (As := [.ref (2), .int (v3), .int (x2)]) (st := []) kX2_admit l_2_112 (by decide +kernel) rfl (Nat.le_of_ble_eq_true rfl) (s_mono h (s_V_of (fun u28 h => ?_)) (fun _ _ h9 => h9))
                show s_Ex (d + 1) 0 mX2_readClause 230 [some (.ref (o0)), some (.ref (2)), some (.int (x2)), some (.int (v3))] [] u28 Q X
                refine s_blk [(.aload_n 0, 1, 0, 0), (.aload_n 1, 1, 0, 0)] 232 [some (.ref (o0)), some (.ref (2)), some (.int (x2)), some (.int (v3))] [.ref (2), .ref (o0)] u28 [] (by decide +kernel) (by refine qt_aload_n (r := o0) rfl ?_; refine qt_aload_n (r := 2) rfl ?_; exact qt_z rfl rfl rfl rfl rfl) trivial ?_
                obtain ⟨hid, h⟩ := h
                refine s_callV (a := 0) (a' := 0) (As := [.ref (2)]) (id := o0) (st := []) kX2_readFog l_2_144 (by decide +kernel) hid rfl (Nat.le_of_ble_eq_true rfl) (s_mono h (s_V_of (fun u30 h => ?_)) (fun _ _ h9 => h9))
                show s_Ex (d + 1) 0 mX2_readClause 235 [some (.ref (o0)), some (.ref (2)), some (.int (x2)), some (.int (v3))] [] u30 Q X
                refine s_blk [(.goto 32, 3, 267, 0)] 267 [some (.ref (o0)), some (.ref (2)), some (.int (x2)), some (.int (v3))] [] u30 [] (by decide +kernel) (by refine qt_goto ?_; exact qt_z rfl rfl rfl rfl rfl) trivial ?_
                exact s_retV (by decide +kernel) rfl h
            · replace h := h.2 hc
              refine s_blk [(.aload_n 1, 1, 0, 0), (.iload_n 3, 1, 0, 0), (.iload_n 2, 1, 0, 0)] 187 [some (.ref (o0)), some (.ref (2)), some (.int (x2)), some (.int (v3))] [.int (x2), .int (v3), .ref (2)] u16 [] (by decide +kernel) (by refine qt_aload_n (r := 2) rfl ?_; refine qt_iload_n (x := v3) rfl ?_; refine qt_iload_n (x := x2) rfl ?_; exact qt_z rfl rfl rfl rfl rfl) trivial ?_
              refine s_if (cd := .eq) (off := 16) 203 (by decide +kernel) (by decide) (fun hc => ?_) (fun hc => ?_)
              · replace h := h.1 hc
                refine s_blk [(.iconst 0, 1, 0, 0)] 204 [some (.ref (o0)), some (.ref (2)), some (.int (x2)), some (.int (v3))] [.int (0), .int (v3), .ref (2)] u16 [] (by decide +kernel) (by refine qt_iconst qc_0 ?_; exact qt_z rfl rfl rfl rfl rfl) trivial ?_
                refine s_callS (a := 0) (a' := 0) (As := [.ref (2), .int (v3), .int (0)]) (st := []) kX2_admit l_2_112 (by decide +kernel) rfl (Nat.le_of_ble_eq_true rfl) (s_mono h (s_V_of (fun u32 h => ?_)) (fun _ _ h9 => h9))
                show s_Ex (d + 1) 0 mX2_readClause 207 [some (.ref (o0)), some (.ref (2)), some (.int (x2)), some (.int (v3))] [] u32 Q X
                refine s_blk [(.aload_n 0, 1, 0, 0), (.aload_n 1, 1, 0, 0)] 209 [some (.ref (o0)), some (.ref (2)), some (.int (x2)), some (.int (v3))] [.ref (2), .ref (o0)] u32 [] (by decide +kernel) (by refine qt_aload_n (r := o0) rfl ?_; refine qt_aload_n (r := 2) rfl ?_; exact qt_z rfl rfl rfl rfl rfl) trivial ?_
                obtain ⟨hid, h⟩ := h
                refine s_callV (a := 0) (a' := 0) (As := [.ref (2)]) (id := o0) (st := []) kX2_readWedding l_2_140 (by decide +kernel) hid rfl (Nat.le_of_ble_eq_true rfl) (s_mono h (s_V_of (fun u34 h => ?_)) (fun _ _ h9 => h9))
                show s_Ex (d + 1) 0 mX2_readClause 212 [some (.ref (o0)), some (.ref (2)), some (.int (x2)), some (.int (v3))] [] u34 Q X
                refine s_blk [(.goto 55, 3, 267, 0)] 267 [some (.ref (o0)), some (.ref (2)), some (.int (x2)), some (.int (v3))] [] u34 [] (by decide +kernel) (by refine qt_goto ?_; exact qt_z rfl rfl rfl rfl rfl) trivial ?_
                exact s_retV (by decide +kernel) rfl h
              · replace h := h.2 hc
                obtain ⟨ho43, h⟩ := h
                refine s_blk [(.aload_n 0, 1, 0, 0), (.getfield 87, 3, 2, 14), (.bipush 6, 2, 0, 0)] 196 [some (.ref (o0)), some (.ref (2)), some (.int (x2)), some (.int (v3))] [.int (6), .int (u16.1 o0 14), .int (v3), .ref (2)] u16 [q_id 116 2 o0] (by decide +kernel) (by refine qt_aload_n (r := o0) rfl ?_; refine qt_getI rfl rfl ?_; refine qt_bipush qb_6 ?_; exact qt_z rfl rfl rfl rfl rfl) ho43 ?_
                refine s_icmp (cd := .ge) (off := 7) 203 (by decide +kernel) (by decide) (fun hc => ?_) (fun hc => ?_)
                · replace h := h.1 hc
                  refine s_blk [(.iconst 0, 1, 0, 0)] 204 [some (.ref (o0)), some (.ref (2)), some (.int (x2)), some (.int (v3))] [.int (0), .int (v3), .ref (2)] u16 [] (by decide +kernel) (by refine qt_iconst qc_0 ?_; exact qt_z rfl rfl rfl rfl rfl) trivial ?_
                  refine s_callS (a := 0) (a' := 0) (As := [.ref (2), .int (v3), .int (0)]) (st := []) kX2_admit l_2_112 (by decide +kernel) rfl (Nat.le_of_ble_eq_true rfl) (s_mono h (s_V_of (fun u36 h => ?_)) (fun _ _ h9 => h9))
                  show s_Ex (d + 1) 0 mX2_readClause 207 [some (.ref (o0)), some (.ref (2)), some (.int (x2)), some (.int (v3))] [] u36 Q X
                  refine s_blk [(.aload_n 0, 1, 0, 0), (.aload_n 1, 1, 0, 0)] 209 [some (.ref (o0)), some (.ref (2)), some (.int (x2)), some (.int (v3))] [.ref (2), .ref (o0)] u36 [] (by decide +kernel) (by refine qt_aload_n (r := o0) rfl ?_; refine qt_aload_n (r := 2) rfl ?_; exact qt_z rfl rfl rfl rfl rfl) trivial ?_
                  obtain ⟨hid, h⟩ := h
                  refine s_callV (a := 0) (a' := 0) (As := [.ref (2)]) (id := o0) (st := []) kX2_readWedding l_2_140 (by decide +kernel) hid rfl (Nat.le_of_ble_eq_true rfl) (s_mono h (s_V_of (fun u38 h => ?_)) (fun _ _ h9 => h9))
                  show s_Ex (d + 1) 0 mX2_readClause 212 [some (.ref (o0)), some (.ref (2)), some (.int (x2)), some (.int (v3))] [] u38 Q X
                  refine s_blk [(.goto 55, 3, 267, 0)] 267 [some (.ref (o0)), some (.ref (2)), some (.int (x2)), some (.int (v3))] [] u38 [] (by decide +kernel) (by refine qt_goto ?_; exact qt_z rfl rfl rfl rfl rfl) trivial ?_
                  exact s_retV (by decide +kernel) rfl h
                · replace h := h.2 hc
                  refine s_blk [(.iconst 1, 1, 0, 0), (.goto 4, 3, 204, 0)] 204 [some (.ref (o0)), some (.ref (2)), some (.int (x2)), some (.int (v3))] [.int (1), .int (v3), .ref (2)] u16 [] (by decide +kernel) (by refine qt_iconst qc_1 ?_; refine qt_goto ?_; exact qt_z rfl rfl rfl rfl rfl) trivial ?_
                  refine s_callS (a := 0) (a' := 0) (As := [.ref (2), .int (v3), .int (1)]) (st := []) kX2_admit l_2_112 (by decide +kernel) rfl (Nat.le_of_ble_eq_true rfl) (s_mono h (s_V_of (fun u40 h => ?_)) (fun _ _ h9 => h9))
                  show s_Ex (d + 1) 0 mX2_readClause 207 [some (.ref (o0)), some (.ref (2)), some (.int (x2)), some (.int (v3))] [] u40 Q X
                  refine s_blk [(.aload_n 0, 1, 0, 0), (.aload_n 1, 1, 0, 0)] 209 [some (.ref (o0)), some (.ref (2)), some (.int (x2)), some (.int (v3))] [.ref (2), .ref (o0)] u40 [] (by decide +kernel) (by refine qt_aload_n (r := o0) rfl ?_; refine qt_aload_n (r := 2) rfl ?_; exact qt_z rfl rfl rfl rfl rfl) trivial ?_
                  obtain ⟨hid, h⟩ := h
                  refine s_callV (a := 0) (a' := 0) (As := [.ref (2)]) (id := o0) (st := []) kX2_readWedding l_2_140 (by decide +kernel) hid rfl (Nat.le_of_ble_eq_true rfl) (s_mono h (s_V_of (fun u42 h => ?_)) (fun _ _ h9 => h9))
                  show s_Ex (d + 1) 0 mX2_readClause 212 [some (.ref (o0)), some (.ref (2)), some (.int (x2)), some (.int (v3))] [] u42 Q X
                  refine s_blk [(.goto 55, 3, 267, 0)] 267 [some (.ref (o0)), some (.ref (2)), some (.int (x2)), some (.int (v3))] [] u42 [] (by decide +kernel) (by refine qt_goto ?_; exact qt_z rfl rfl rfl rfl rfl) trivial ?_
                  exact s_retV (by decide +kernel) rfl h
          · replace h := h.2 hc
            refine s_blk [(.aload_n 1, 1, 0, 0), (.iload_n 3, 1, 0, 0), (.iload_n 2, 1, 0, 0)] 164 [some (.ref (o0)), some (.ref (2)), some (.int (x2)), some (.int (v3))] [.int (x2), .int (v3), .ref (2)] u14 [] (by decide +kernel) (by refine qt_aload_n (r := 2) rfl ?_; refine qt_iload_n (x := v3) rfl ?_; refine qt_iload_n (x := x2) rfl ?_; exact qt_z rfl rfl rfl rfl rfl) trivial ?_
            refine s_callS (a := 0) (a' := 0) (As := [.ref (2), .int (v3), .int (x2)]) (st := []) kX2_admit l_2_112 (by decide +kernel) rfl (Nat.le_of_ble_eq_true rfl) (s_mono h (s_V_of (fun u45 h => ?_)) (fun _ _ h9 => h9))
            show s_Ex (d + 1) 0 mX2_readClause 167 [some (.ref (o0)), some (.ref (2)), some (.int (x2)), some (.int (v3))] [] u45 Q X
            refine s_blk [(.aload_n 0, 1, 0, 0), (.aload_n 1, 1, 0, 0)] 169 [some (.ref (o0)), some (.ref (2)), some (.int (x2)), some (.int (v3))] [.ref (2), .ref (o0)] u45 [] (by decide +kernel) (by refine qt_aload_n (r := o0) rfl ?_; refine qt_aload_n (r := 2) rfl ?_; exact qt_z rfl rfl rfl rfl rfl) trivial ?_
            obtain ⟨hid, h⟩ := h
            refine s_callV (a := 0) (a' := 0) (As := [.ref (2)]) (id := o0) (st := []) kX2_readLamp l_2_135 (by decide +kernel) hid rfl (Nat.le_of_ble_eq_true rfl) (s_mono h (s_V_of (fun u47 h => ?_)) (fun _ _ h9 => h9))
            show s_Ex (d + 1) 0 mX2_readClause 172 [some (.ref (o0)), some (.ref (2)), some (.int (x2)), some (.int (v3))] [] u47 Q X
            refine s_blk [(.goto 95, 3, 267, 0)] 267 [some (.ref (o0)), some (.ref (2)), some (.int (x2)), some (.int (v3))] [] u47 [] (by decide +kernel) (by refine qt_goto ?_; exact qt_z rfl rfl rfl rfl rfl) trivial ?_
            exact s_retV (by decide +kernel) rfl h
        · replace h := h.2 hc
          refine s_blk [(.aload_n 1, 1, 0, 0), (.iload_n 3, 1, 0, 0), (.iload_n 2, 1, 0, 0)] 141 [some (.ref (o0)), some (.ref (2)), some (.int (x2)), some (.int (v3))] [.int (x2), .int (v3), .ref (2)] u12 [] (by decide +kernel) (by refine qt_aload_n (r := 2) rfl ?_; refine qt_iload_n (x := v3) rfl ?_; refine qt_iload_n (x := x2) rfl ?_; exact qt_z rfl rfl rfl rfl rfl) trivial ?_
          refine s_callS (a := 0) (a' := 0) (As := [.ref (2), .int (v3), .int (x2)]) (st := []) kX2_admit l_2_112 (by decide +kernel) rfl (Nat.le_of_ble_eq_true rfl) (s_mono h (s_V_of (fun u49 h => ?_)) (fun _ _ h9 => h9))
          show s_Ex (d + 1) 0 mX2_readClause 144 [some (.ref (o0)), some (.ref (2)), some (.int (x2)), some (.int (v3))] [] u49 Q X
          refine s_blk [(.aload_n 0, 1, 0, 0), (.aload_n 1, 1, 0, 0)] 146 [some (.ref (o0)), some (.ref (2)), some (.int (x2)), some (.int (v3))] [.ref (2), .ref (o0)] u49 [] (by decide +kernel) (by refine qt_aload_n (r := o0) rfl ?_; refine qt_aload_n (r := 2) rfl ?_; exact qt_z rfl rfl rfl rfl rfl) trivial ?_
          obtain ⟨hid, h⟩ := h
          refine s_callV (a := 0) (a' := 0) (As := [.ref (2)]) (id := o0) (st := []) kX2_readRidge l_2_131 (by decide +kernel) hid rfl (Nat.le_of_ble_eq_true rfl) (s_mono h (s_V_of (fun u51 h => ?_)) (fun _ _ h9 => h9))
          show s_Ex (d + 1) 0 mX2_readClause 149 [some (.ref (o0)), some (.ref (2)), some (.int (x2)), some (.int (v3))] [] u51 Q X
          refine s_blk [(.goto 118, 3, 267, 0)] 267 [some (.ref (o0)), some (.ref (2)), some (.int (x2)), some (.int (v3))] [] u51 [] (by decide +kernel) (by refine qt_goto ?_; exact qt_z rfl rfl rfl rfl rfl) trivial ?_
          exact s_retV (by decide +kernel) rfl h
      · replace h := h.2 hc
        refine s_blk [(.aload_n 1, 1, 0, 0), (.iload_n 3, 1, 0, 0), (.iload_n 2, 1, 0, 0)] 101 [some (.ref (o0)), some (.ref (2)), some (.int (x2)), some (.int (v3))] [.int (x2), .int (v3), .ref (2)] u10 [] (by decide +kernel) (by refine qt_aload_n (r := 2) rfl ?_; refine qt_iload_n (x := v3) rfl ?_; refine qt_iload_n (x := x2) rfl ?_; exact qt_z rfl rfl rfl rfl rfl) trivial ?_
        refine s_if (cd := .eq) (off := 16) 117 (by decide +kernel) (by decide) (fun hc => ?_) (fun hc => ?_)
        · replace h := h.1 hc
          refine s_blk [(.iconst 0, 1, 0, 0)] 118 [some (.ref (o0)), some (.ref (2)), some (.int (x2)), some (.int (v3))] [.int (0), .int (v3), .ref (2)] u10 [] (by decide +kernel) (by refine qt_iconst qc_0 ?_; exact qt_z rfl rfl rfl rfl rfl) trivial ?_
          refine s_callS (a := 0) (a' := 0) (As := [.ref (2), .int (v3), .int (0)]) (st := []) kX2_admit l_2_112 (by decide +kernel) rfl (Nat.le_of_ble_eq_true rfl) (s_mono h (s_V_of (fun u53 h => ?_)) (fun _ _ h9 => h9))
          show s_Ex (d + 1) 0 mX2_readClause 121 [some (.ref (o0)), some (.ref (2)), some (.int (x2)), some (.int (v3))] [] u53 Q X
          refine s_blk [(.aload_n 0, 1, 0, 0), (.aload_n 1, 1, 0, 0)] 123 [some (.ref (o0)), some (.ref (2)), some (.int (x2)), some (.int (v3))] [.ref (2), .ref (o0)] u53 [] (by decide +kernel) (by refine qt_aload_n (r := o0) rfl ?_; refine qt_aload_n (r := 2) rfl ?_; exact qt_z rfl rfl rfl rfl rfl) trivial ?_
          obtain ⟨hid, h⟩ := h
          refine s_callV (a := 0) (a' := 0) (As := [.ref (2)]) (id := o0) (st := []) kX2_readDusk l_2_127 (by decide +kernel) hid rfl (Nat.le_of_ble_eq_true rfl) (s_mono h (s_V_of (fun u55 h => ?_)) (fun _ _ h9 => h9))
          show s_Ex (d + 1) 0 mX2_readClause 126 [some (.ref (o0)), some (.ref (2)), some (.int (x2)), some (.int (v3))] [] u55 Q X
          refine s_blk [(.goto 141, 3, 267, 0)] 267 [some (.ref (o0)), some (.ref (2)), some (.int (x2)), some (.int (v3))] [] u55 [] (by decide +kernel) (by refine qt_goto ?_; exact qt_z rfl rfl rfl rfl rfl) trivial ?_
          exact s_retV (by decide +kernel) rfl h
        · replace h := h.2 hc
          obtain ⟨ho64, h⟩ := h
          refine s_blk [(.aload_n 0, 1, 0, 0), (.getfield 84, 3, 2, 10), (.bipush 12, 2, 0, 0)] 110 [some (.ref (o0)), some (.ref (2)), some (.int (x2)), some (.int (v3))] [.int (12), .int (u10.1 o0 10), .int (v3), .ref (2)] u10 [q_id 116 2 o0] (by decide +kernel) (by refine qt_aload_n (r := o0) rfl ?_; refine qt_getI rfl rfl ?_; refine qt_bipush qb_12 ?_; exact qt_z rfl rfl rfl rfl rfl) ho64 ?_
          refine s_icmp (cd := .ge) (off := 7) 117 (by decide +kernel) (by decide) (fun hc => ?_) (fun hc => ?_)
          · replace h := h.1 hc
            refine s_blk [(.iconst 0, 1, 0, 0)] 118 [some (.ref (o0)), some (.ref (2)), some (.int (x2)), some (.int (v3))] [.int (0), .int (v3), .ref (2)] u10 [] (by decide +kernel) (by refine qt_iconst qc_0 ?_; exact qt_z rfl rfl rfl rfl rfl) trivial ?_
            refine s_callS (a := 0) (a' := 0) (As := [.ref (2), .int (v3), .int (0)]) (st := []) kX2_admit l_2_112 (by decide +kernel) rfl (Nat.le_of_ble_eq_true rfl) (s_mono h (s_V_of (fun u57 h => ?_)) (fun _ _ h9 => h9))
            show s_Ex (d + 1) 0 mX2_readClause 121 [some (.ref (o0)), some (.ref (2)), some (.int (x2)), some (.int (v3))] [] u57 Q X
            refine s_blk [(.aload_n 0, 1, 0, 0), (.aload_n 1, 1, 0, 0)] 123 [some (.ref (o0)), some (.ref (2)), some (.int (x2)), some (.int (v3))] [.ref (2), .ref (o0)] u57 [] (by decide +kernel) (by refine qt_aload_n (r := o0) rfl ?_; refine qt_aload_n (r := 2) rfl ?_; exact qt_z rfl rfl rfl rfl rfl) trivial ?_
            obtain ⟨hid, h⟩ := h
            refine s_callV (a := 0) (a' := 0) (As := [.ref (2)]) (id := o0) (st := []) kX2_readDusk l_2_127 (by decide +kernel) hid rfl (Nat.le_of_ble_eq_true rfl) (s_mono h (s_V_of (fun u59 h => ?_)) (fun _ _ h9 => h9))
            show s_Ex (d + 1) 0 mX2_readClause 126 [some (.ref (o0)), some (.ref (2)), some (.int (x2)), some (.int (v3))] [] u59 Q X
            refine s_blk [(.goto 141, 3, 267, 0)] 267 [some (.ref (o0)), some (.ref (2)), some (.int (x2)), some (.int (v3))] [] u59 [] (by decide +kernel) (by refine qt_goto ?_; exact qt_z rfl rfl rfl rfl rfl) trivial ?_
            exact s_retV (by decide +kernel) rfl h
          · replace h := h.2 hc
            refine s_blk [(.iconst 1, 1, 0, 0), (.goto 4, 3, 118, 0)] 118 [some (.ref (o0)), some (.ref (2)), some (.int (x2)), some (.int (v3))] [.int (1), .int (v3), .ref (2)] u10 [] (by decide +kernel) (by refine qt_iconst qc_1 ?_; refine qt_goto ?_; exact qt_z rfl rfl rfl rfl rfl) trivial ?_
            refine s_callS (a := 0) (a' := 0) (As := [.ref (2), .int (v3), .int (1)]) (st := []) kX2_admit l_2_112 (by decide +kernel) rfl (Nat.le_of_ble_eq_true rfl) (s_mono h (s_V_of (fun u61 h => ?_)) (fun _ _ h9 => h9))
            show s_Ex (d + 1) 0 mX2_readClause 121 [some (.ref (o0)), some (.ref (2)), some (.int (x2)), some (.int (v3))] [] u61 Q X
            refine s_blk [(.aload_n 0, 1, 0, 0), (.aload_n 1, 1, 0, 0)] 123 [some (.ref (o0)), some (.ref (2)), some (.int (x2)), some (.int (v3))] [.ref (2), .ref (o0)] u61 [] (by decide +kernel) (by refine qt_aload_n (r := o0) rfl ?_; refine qt_aload_n (r := 2) rfl ?_; exact qt_z rfl rfl rfl rfl rfl) trivial ?_
            obtain ⟨hid, h⟩ := h
            refine s_callV (a := 0) (a' := 0) (As := [.ref (2)]) (id := o0) (st := []) kX2_readDusk l_2_127 (by decide +kernel) hid rfl (Nat.le_of_ble_eq_true rfl) (s_mono h (s_V_of (fun u63 h => ?_)) (fun _ _ h9 => h9))
            show s_Ex (d + 1) 0 mX2_readClause 126 [some (.ref (o0)), some (.ref (2)), some (.int (x2)), some (.int (v3))] [] u63 Q X
            refine s_blk [(.goto 141, 3, 267, 0)] 267 [some (.ref (o0)), some (.ref (2)), some (.int (x2)), some (.int (v3))] [] u63 [] (by decide +kernel) (by refine qt_goto ?_; exact qt_z rfl rfl rfl rfl rfl) trivial ?_
            exact s_retV (by decide +kernel) rfl h
    · replace h := h.2 hc
      refine s_blk [(.aload_n 1, 1, 0, 0), (.iload_n 3, 1, 0, 0), (.iload_n 2, 1, 0, 0)] 61 [some (.ref (o0)), some (.ref (2)), some (.int (x2)), some (.int (v3))] [.int (x2), .int (v3), .ref (2)] u8 [] (by decide +kernel) (by refine qt_aload_n (r := 2) rfl ?_; refine qt_iload_n (x := v3) rfl ?_; refine qt_iload_n (x := x2) rfl ?_; exact qt_z rfl rfl rfl rfl rfl) trivial ?_
      refine s_if (cd := .eq) (off := 16) 77 (by decide +kernel) (by decide) (fun hc => ?_) (fun hc => ?_)
      · replace h := h.1 hc
        refine s_blk [(.iconst 0, 1, 0, 0)] 78 [some (.ref (o0)), some (.ref (2)), some (.int (x2)), some (.int (v3))] [.int (0), .int (v3), .ref (2)] u8 [] (by decide +kernel) (by refine qt_iconst qc_0 ?_; exact qt_z rfl rfl rfl rfl rfl) trivial ?_
        refine s_callS (a := 0) (a' := 0) (As := [.ref (2), .int (v3), .int (0)]) (st := []) kX2_admit l_2_112 (by decide +kernel) rfl (Nat.le_of_ble_eq_true rfl) (s_mono h (s_V_of (fun u66 h => ?_)) (fun _ _ h9 => h9))
        show s_Ex (d + 1) 0 mX2_readClause 81 [some (.ref (o0)), some (.ref (2)), some (.int (x2)), some (.int (v3))] [] u66 Q X
        refine s_blk [(.aload_n 0, 1, 0, 0), (.aload_n 1, 1, 0, 0)] 83 [some (.ref (o0)), some (.ref (2)), some (.int (x2)), some (.int (v3))] [.ref (2), .ref (o0)] u66 [] (by decide +kernel) (by refine qt_aload_n (r := o0) rfl ?_; refine qt_aload_n (r := 2) rfl ?_; exact qt_z rfl rfl rfl rfl rfl) trivial ?_
        obtain ⟨hid, h⟩ := h
        refine s_callV (a := 0) (a' := 0) (As := [.ref (2)]) (id := o0) (st := []) kX2_readDebt l_2_122 (by decide +kernel) hid rfl (Nat.le_of_ble_eq_true rfl) (s_mono h (s_V_of (fun u68 h => ?_)) (fun _ _ h9 => h9))
        show s_Ex (d + 1) 0 mX2_readClause 86 [some (.ref (o0)), some (.ref (2)), some (.int (x2)), some (.int (v3))] [] u68 Q X
        refine s_blk [(.goto 181, 3, 267, 0)] 267 [some (.ref (o0)), some (.ref (2)), some (.int (x2)), some (.int (v3))] [] u68 [] (by decide +kernel) (by refine qt_goto ?_; exact qt_z rfl rfl rfl rfl rfl) trivial ?_
        exact s_retV (by decide +kernel) rfl h
      · replace h := h.2 hc
        obtain ⟨ho77, h⟩ := h
        refine s_blk [(.aload_n 0, 1, 0, 0), (.getfield 81, 3, 2, 3), (.bipush 10, 2, 0, 0)] 70 [some (.ref (o0)), some (.ref (2)), some (.int (x2)), some (.int (v3))] [.int (10), .int (u8.1 o0 3), .int (v3), .ref (2)] u8 [q_id 116 2 o0] (by decide +kernel) (by refine qt_aload_n (r := o0) rfl ?_; refine qt_getI rfl rfl ?_; refine qt_bipush qb_10 ?_; exact qt_z rfl rfl rfl rfl rfl) ho77 ?_
        refine s_icmp (cd := .ge) (off := 7) 77 (by decide +kernel) (by decide) (fun hc => ?_) (fun hc => ?_)
        · replace h := h.1 hc
          refine s_blk [(.iconst 0, 1, 0, 0)] 78 [some (.ref (o0)), some (.ref (2)), some (.int (x2)), some (.int (v3))] [.int (0), .int (v3), .ref (2)] u8 [] (by decide +kernel) (by refine qt_iconst qc_0 ?_; exact qt_z rfl rfl rfl rfl rfl) trivial ?_
          refine s_callS (a := 0) (a' := 0) (As := [.ref (2), .int (v3), .int (0)]) (st := []) kX2_admit l_2_112 (by decide +kernel) rfl (Nat.le_of_ble_eq_true rfl) (s_mono h (s_V_of (fun u70 h => ?_)) (fun _ _ h9 => h9))
          show s_Ex (d + 1) 0 mX2_readClause 81 [some (.ref (o0)), some (.ref (2)), some (.int (x2)), some (.int (v3))] [] u70 Q X
          refine s_blk [(.aload_n 0, 1, 0, 0), (.aload_n 1, 1, 0, 0)] 83 [some (.ref (o0)), some (.ref (2)), some (.int (x2)), some (.int (v3))] [.ref (2), .ref (o0)] u70 [] (by decide +kernel) (by refine qt_aload_n (r := o0) rfl ?_; refine qt_aload_n (r := 2) rfl ?_; exact qt_z rfl rfl rfl rfl rfl) trivial ?_
          obtain ⟨hid, h⟩ := h
          refine s_callV (a := 0) (a' := 0) (As := [.ref (2)]) (id := o0) (st := []) kX2_readDebt l_2_122 (by decide +kernel) hid rfl (Nat.le_of_ble_eq_true rfl) (s_mono h (s_V_of (fun u72 h => ?_)) (fun _ _ h9 => h9))
          show s_Ex (d + 1) 0 mX2_readClause 86 [some (.ref (o0)), some (.ref (2)), some (.int (x2)), some (.int (v3))] [] u72 Q X
          refine s_blk [(.goto 181, 3, 267, 0)] 267 [some (.ref (o0)), some (.ref (2)), some (.int (x2)), some (.int (v3))] [] u72 [] (by decide +kernel) (by refine qt_goto ?_; exact qt_z rfl rfl rfl rfl rfl) trivial ?_
          exact s_retV (by decide +kernel) rfl h
        · replace h := h.2 hc
          refine s_blk [(.iconst 1, 1, 0, 0), (.goto 4, 3, 78, 0)] 78 [some (.ref (o0)), some (.ref (2)), some (.int (x2)), some (.int (v3))] [.int (1), .int (v3), .ref (2)] u8 [] (by decide +kernel) (by refine qt_iconst qc_1 ?_; refine qt_goto ?_; exact qt_z rfl rfl rfl rfl rfl) trivial ?_
          refine s_callS (a := 0) (a' := 0) (As := [.ref (2), .int (v3), .int (1)]) (st := []) kX2_admit l_2_112 (by decide +kernel) rfl (Nat.le_of_ble_eq_true rfl) (s_mono h (s_V_of (fun u74 h => ?_)) (fun _ _ h9 => h9))
          show s_Ex (d + 1) 0 mX2_readClause 81 [some (.ref (o0)), some (.ref (2)), some (.int (x2)), some (.int (v3))] [] u74 Q X
          refine s_blk [(.aload_n 0, 1, 0, 0), (.aload_n 1, 1, 0, 0)] 83 [some (.ref (o0)), some (.ref (2)), some (.int (x2)), some (.int (v3))] [.ref (2), .ref (o0)] u74 [] (by decide +kernel) (by refine qt_aload_n (r := o0) rfl ?_; refine qt_aload_n (r := 2) rfl ?_; exact qt_z rfl rfl rfl rfl rfl) trivial ?_
          obtain ⟨hid, h⟩ := h
          refine s_callV (a := 0) (a' := 0) (As := [.ref (2)]) (id := o0) (st := []) kX2_readDebt l_2_122 (by decide +kernel) hid rfl (Nat.le_of_ble_eq_true rfl) (s_mono h (s_V_of (fun u76 h => ?_)) (fun _ _ h9 => h9))
          show s_Ex (d + 1) 0 mX2_readClause 86 [some (.ref (o0)), some (.ref (2)), some (.int (x2)), some (.int (v3))] [] u76 Q X
          refine s_blk [(.goto 181, 3, 267, 0)] 267 [some (.ref (o0)), some (.ref (2)), some (.int (x2)), some (.int (v3))] [] u76 [] (by decide +kernel) (by refine qt_goto ?_; exact qt_z rfl rfl rfl rfl rfl) trivial ?_
          exact s_retV (by decide +kernel) rfl h
  · replace h := h.2 hc
    refine s_blk [(.aload_n 1, 1, 0, 0), (.iload_n 3, 1, 0, 0), (.iload_n 2, 1, 0, 0)] 21 [some (.ref (o0)), some (.ref (2)), some (.int (x2)), some (.int (v3))] [.int (x2), .int (v3), .ref (2)] u6 [] (by decide +kernel) (by refine qt_aload_n (r := 2) rfl ?_; refine qt_iload_n (x := v3) rfl ?_; refine qt_iload_n (x := x2) rfl ?_; exact qt_z rfl rfl rfl rfl rfl) trivial ?_
    refine s_if (cd := .eq) (off := 16) 37 (by decide +kernel) (by decide) (fun hc => ?_) (fun hc => ?_)
    · replace h := h.1 hc
      refine s_blk [(.iconst 0, 1, 0, 0)] 38 [some (.ref (o0)), some (.ref (2)), some (.int (x2)), some (.int (v3))] [.int (0), .int (v3), .ref (2)] u6 [] (by decide +kernel) (by refine qt_iconst qc_0 ?_; exact qt_z rfl rfl rfl rfl rfl) trivial ?_
      refine s_callS (a := 0) (a' := 0) (As := [.ref (2), .int (v3), .int (0)]) (st := []) kX2_admit l_2_112 (by decide +kernel) rfl (Nat.le_of_ble_eq_true rfl) (s_mono h (s_V_of (fun u79 h => ?_)) (fun _ _ h9 => h9))
      show s_Ex (d + 1) 0 mX2_readClause 41 [some (.ref (o0)), some (.ref (2)), some (.int (x2)), some (.int (v3))] [] u79 Q X
      refine s_blk [(.aload_n 0, 1, 0, 0), (.aload_n 1, 1, 0, 0)] 43 [some (.ref (o0)), some (.ref (2)), some (.int (x2)), some (.int (v3))] [.ref (2), .ref (o0)] u79 [] (by decide +kernel) (by refine qt_aload_n (r := o0) rfl ?_; refine qt_aload_n (r := 2) rfl ?_; exact qt_z rfl rfl rfl rfl rfl) trivial ?_
      obtain ⟨hid, h⟩ := h
      refine s_callV (a := 0) (a' := 0) (As := [.ref (2)]) (id := o0) (st := []) kX2_readCreditor l_2_116 (by decide +kernel) hid rfl (Nat.le_of_ble_eq_true rfl) (s_mono h (s_V_of (fun u81 h => ?_)) (fun _ _ h9 => h9))
      show s_Ex (d + 1) 0 mX2_readClause 46 [some (.ref (o0)), some (.ref (2)), some (.int (x2)), some (.int (v3))] [] u81 Q X
      refine s_blk [(.goto 221, 3, 267, 0)] 267 [some (.ref (o0)), some (.ref (2)), some (.int (x2)), some (.int (v3))] [] u81 [] (by decide +kernel) (by refine qt_goto ?_; exact qt_z rfl rfl rfl rfl rfl) trivial ?_
      exact s_retV (by decide +kernel) rfl h
    · replace h := h.2 hc
      obtain ⟨ho90, h⟩ := h
      refine s_blk [(.aload_n 0, 1, 0, 0), (.getfield 77, 3, 2, 0), (.bipush 6, 2, 0, 0)] 30 [some (.ref (o0)), some (.ref (2)), some (.int (x2)), some (.int (v3))] [.int (6), .int (u6.1 o0 0), .int (v3), .ref (2)] u6 [q_id 116 2 o0] (by decide +kernel) (by refine qt_aload_n (r := o0) rfl ?_; refine qt_getI rfl rfl ?_; refine qt_bipush qb_6 ?_; exact qt_z rfl rfl rfl rfl rfl) ho90 ?_
      refine s_icmp (cd := .ge) (off := 7) 37 (by decide +kernel) (by decide) (fun hc => ?_) (fun hc => ?_)
      · replace h := h.1 hc
        refine s_blk [(.iconst 0, 1, 0, 0)] 38 [some (.ref (o0)), some (.ref (2)), some (.int (x2)), some (.int (v3))] [.int (0), .int (v3), .ref (2)] u6 [] (by decide +kernel) (by refine qt_iconst qc_0 ?_; exact qt_z rfl rfl rfl rfl rfl) trivial ?_
        refine s_callS (a := 0) (a' := 0) (As := [.ref (2), .int (v3), .int (0)]) (st := []) kX2_admit l_2_112 (by decide +kernel) rfl (Nat.le_of_ble_eq_true rfl) (s_mono h (s_V_of (fun u83 h => ?_)) (fun _ _ h9 => h9))
        show s_Ex (d + 1) 0 mX2_readClause 41 [some (.ref (o0)), some (.ref (2)), some (.int (x2)), some (.int (v3))] [] u83 Q X
        refine s_blk [(.aload_n 0, 1, 0, 0), (.aload_n 1, 1, 0, 0)] 43 [some (.ref (o0)), some (.ref (2)), some (.int (x2)), some (.int (v3))] [.ref (2), .ref (o0)] u83 [] (by decide +kernel) (by refine qt_aload_n (r := o0) rfl ?_; refine qt_aload_n (r := 2) rfl ?_; exact qt_z rfl rfl rfl rfl rfl) trivial ?_
        obtain ⟨hid, h⟩ := h
        refine s_callV (a := 0) (a' := 0) (As := [.ref (2)]) (id := o0) (st := []) kX2_readCreditor l_2_116 (by decide +kernel) hid rfl (Nat.le_of_ble_eq_true rfl) (s_mono h (s_V_of (fun u85 h => ?_)) (fun _ _ h9 => h9))
        show s_Ex (d + 1) 0 mX2_readClause 46 [some (.ref (o0)), some (.ref (2)), some (.int (x2)), some (.int (v3))] [] u85 Q X
        refine s_blk [(.goto 221, 3, 267, 0)] 267 [some (.ref (o0)), some (.ref (2)), some (.int (x2)), some (.int (v3))] [] u85 [] (by decide +kernel) (by refine qt_goto ?_; exact qt_z rfl rfl rfl rfl rfl) trivial ?_
        exact s_retV (by decide +kernel) rfl h
      · replace h := h.2 hc
        refine s_blk [(.iconst 1, 1, 0, 0), (.goto 4, 3, 38, 0)] 38 [some (.ref (o0)), some (.ref (2)), some (.int (x2)), some (.int (v3))] [.int (1), .int (v3), .ref (2)] u6 [] (by decide +kernel) (by refine qt_iconst qc_1 ?_; refine qt_goto ?_; exact qt_z rfl rfl rfl rfl rfl) trivial ?_
        refine s_callS (a := 0) (a' := 0) (As := [.ref (2), .int (v3), .int (1)]) (st := []) kX2_admit l_2_112 (by decide +kernel) rfl (Nat.le_of_ble_eq_true rfl) (s_mono h (s_V_of (fun u87 h => ?_)) (fun _ _ h9 => h9))
        show s_Ex (d + 1) 0 mX2_readClause 41 [some (.ref (o0)), some (.ref (2)), some (.int (x2)), some (.int (v3))] [] u87 Q X
        refine s_blk [(.aload_n 0, 1, 0, 0), (.aload_n 1, 1, 0, 0)] 43 [some (.ref (o0)), some (.ref (2)), some (.int (x2)), some (.int (v3))] [.ref (2), .ref (o0)] u87 [] (by decide +kernel) (by refine qt_aload_n (r := o0) rfl ?_; refine qt_aload_n (r := 2) rfl ?_; exact qt_z rfl rfl rfl rfl rfl) trivial ?_
        obtain ⟨hid, h⟩ := h
        refine s_callV (a := 0) (a' := 0) (As := [.ref (2)]) (id := o0) (st := []) kX2_readCreditor l_2_116 (by decide +kernel) hid rfl (Nat.le_of_ble_eq_true rfl) (s_mono h (s_V_of (fun u89 h => ?_)) (fun _ _ h9 => h9))
        show s_Ex (d + 1) 0 mX2_readClause 46 [some (.ref (o0)), some (.ref (2)), some (.int (x2)), some (.int (v3))] [] u89 Q X
        refine s_blk [(.goto 221, 3, 267, 0)] 267 [some (.ref (o0)), some (.ref (2)), some (.int (x2)), some (.int (v3))] [] u89 [] (by decide +kernel) (by refine qt_goto ?_; exact qt_z rfl rfl rfl rfl rfl) trivial ?_
        exact s_retV (by decide +kernel) rfl h
theorem eX2_readClause {d : Nat} {o0 : Nat} {x2 : Int32} {w : q_Sm} {Q : s_Po} {X : s_Xo} (h : vX2_readClause_0 d o0 x2 w Q X) : s_Ev (d + 1) 0 mX2_readClause w [.ref (o0), .ref (2), .int (x2)] Q X := s_of (by decide +kernel) rfl (Nat.le_of_ble_eq_true rfl) (xX2_readClause_0 h)
def vX2_admit_0 (d : Nat) (x1 : Int32) (x2 : Int32) (w : q_Sm) (Q : s_Po) (X : s_Xo) : Prop := ((¬ x2 = 0) → Q none w) ∧ (¬ (¬ x2 = 0) → s_EvV d 0 mX10_blame w [.ref (2), .int (3), .int (x1)] (fun u2 => Q none u2) X)
theorem xX2_admit_0 {d : Nat} {x1 : Int32} {x2 : Int32} {w : q_Sm} {Q : s_Po} {X : s_Xo} (h : vX2_admit_0 d x1 x2 w Q X) : s_Ex (d + 1) 0 mX2_admit 0 [some (.ref (2)), some (.int (x1)), some (.int (x2))] [] w Q X := by
  unfold vX2_admit_0 at h
  refine s_blk [(.iload_n 2, 1, 0, 0)] 1 [some (.ref (2)), some (.int (x1)), some (.int (x2))] [.int (x2)] w [] (by decide +kernel) (by refine qt_iload_n (x := x2) rfl ?_; exact qt_z rfl rfl rfl rfl rfl) trivial ?_
  refine s_if (cd := .ne) (off := 9) 10 (by decide +kernel) (by decide) (fun hc => ?_) (fun hc => ?_)
  · replace h := h.1 hc
    exact s_retV (by decide +kernel) rfl h
  · replace h := h.2 hc
    refine s_blk [(.aload_n 0, 1, 0, 0), (.iconst 3, 1, 0, 0), (.iload_n 1, 1, 0, 0)] 7 [some (.ref (2)), some (.int (x1)), some (.int (x2))] [.int (x1), .int (3), .ref (2)] w [] (by decide +kernel) (by refine qt_aload_n (r := 2) rfl ?_; refine qt_iconst qc_3 ?_; refine qt_iload_n (x := x1) rfl ?_; exact qt_z rfl rfl rfl rfl rfl) trivial ?_
    refine s_callV (a := 0) (a' := 0) (As := [.int (3), .int (x1)]) (id := 2) (st := []) kX10_blame l_2_152 (by decide +kernel) (q_id_of rfl) rfl (Nat.le_of_ble_eq_true rfl) (s_mono h (s_V_of (fun u2 h => ?_)) (fun _ _ h9 => h9))
    show s_Ex (d + 1) 0 mX2_admit 10 [some (.ref (2)), some (.int (x1)), some (.int (x2))] [] u2 Q X
    exact s_retV (by decide +kernel) rfl h
theorem eX2_admit {d : Nat} {x1 : Int32} {x2 : Int32} {w : q_Sm} {Q : s_Po} {X : s_Xo} (h : vX2_admit_0 d x1 x2 w Q X) : s_Ev (d + 1) 0 mX2_admit w [.ref (2), .int (x1), .int (x2)] Q X := s_of (by decide +kernel) rfl (Nat.le_of_ble_eq_true rfl) (xX2_admit_0 h)
def vX2_readCreditor_0 (d : Nat) (o0 : Nat) (w : q_Sm) (Q : s_Po) (X : s_Xo) : Prop := s_EvI d 0 mX10_number w [.ref (2), .int (0), .int (19)] (fun v1 u2 => s_EvI d 0 mX10_number u2 [.ref (2), .int (0), .int (20)] (fun v3 u4 => s_EvI d 0 mX10_failed u4 [.ref (2)] (fun v5 u6 => ((¬ v5 = 0) → Q none u6) ∧ (¬ (¬ v5 = 0) → (q_id 116 2 o0) ∧ ((6 ≤ (u6.1 o0 0)) → Q none u6) ∧ (¬ (6 ≤ (u6.1 o0 0)) → (q_id 116 2 o0) ∧ (q_id 116 2 o0) ∧ (q_id 116 14 (o0 + 1)) ∧ (vp_in (u6.1 o0 0) (q_sh (o0 + 1)).2) ∧ ∀ w_7 : q_Sm, w_7 = q_wI u6 (o0 + 1) (Int32.toNatClampNeg (u6.1 o0 0)) v1 → (q_id 116 2 o0) ∧ (q_id 116 2 o0) ∧ (q_id 116 14 (o0 + 2)) ∧ (vp_in (w_7.1 o0 0) (q_sh (o0 + 2)).2) ∧ ∀ w_8 : q_Sm, w_8 = q_wI w_7 (o0 + 2) (Int32.toNatClampNeg (w_7.1 o0 0)) v3 → (q_id 116 2 o0) ∧ (q_id 116 2 o0) ∧ ∀ w_9 : q_Sm, w_9 = q_wI w_8 o0 0 ((w_8.1 o0 0) + 1) → Q none w_9))) X) X) X
theorem xX2_readCreditor_0 {d : Nat} {o0 : Nat} {w : q_Sm} {Q : s_Po} {X : s_Xo} (h : vX2_readCreditor_0 d o0 w Q X) : s_Ex (d + 1) 0 mX2_readCreditor 0 [some (.ref (o0)), some (.ref (2)), none, none] [] w Q X := by
  unfold vX2_readCreditor_0 at h
  refine s_blk [(.aload_n 1, 1, 0, 0), (.iconst 0, 1, 0, 0), (.bipush 19, 2, 0, 0)] 4 [some (.ref (o0)), some (.ref (2)), none, none] [.int (19), .int (0), .ref (2)] w [] (by decide +kernel) (by refine qt_aload_n (r := 2) rfl ?_; refine qt_iconst qc_0 ?_; refine qt_bipush qb_19 ?_; exact qt_z rfl rfl rfl rfl rfl) trivial ?_
  refine s_callV (a := 0) (a' := 0) (As := [.int (0), .int (19)]) (id := 2) (st := []) kX10_number l_2_156 (by decide +kernel) (q_id_of rfl) rfl (Nat.le_of_ble_eq_true rfl) (s_mono h (s_I_of (fun v1 u2 h => ?_)) (fun _ _ h9 => h9))
  show s_Ex (d + 1) 0 mX2_readCreditor 7 [some (.ref (o0)), some (.ref (2)), none, none] [.int (v1)] u2 Q X
  refine s_blk [(.istore_n 2, 1, 0, 0), (.aload_n 1, 1, 0, 0), (.iconst 0, 1, 0, 0), (.bipush 20, 2, 0, 0)] 12 [some (.ref (o0)), some (.ref (2)), some (.int (v1)), none] [.int (20), .int (0), .ref (2)] u2 [] (by decide +kernel) (by refine qt_istore_n (L' := [some (.ref (o0)), some (.ref (2)), some (.int (v1)), none]) rfl ?_; refine qt_aload_n (r := 2) rfl ?_; refine qt_iconst qc_0 ?_; refine qt_bipush qb_20 ?_; exact qt_z rfl rfl rfl rfl rfl) trivial ?_
  refine s_callV (a := 0) (a' := 0) (As := [.int (0), .int (20)]) (id := 2) (st := []) kX10_number l_2_156 (by decide +kernel) (q_id_of rfl) rfl (Nat.le_of_ble_eq_true rfl) (s_mono h (s_I_of (fun v3 u4 h => ?_)) (fun _ _ h9 => h9))
  show s_Ex (d + 1) 0 mX2_readCreditor 15 [some (.ref (o0)), some (.ref (2)), some (.int (v1)), none] [.int (v3)] u4 Q X
  refine s_blk [(.istore_n 3, 1, 0, 0), (.aload_n 1, 1, 0, 0)] 17 [some (.ref (o0)), some (.ref (2)), some (.int (v1)), some (.int (v3))] [.ref (2)] u4 [] (by decide +kernel) (by refine qt_istore_n (L' := [some (.ref (o0)), some (.ref (2)), some (.int (v1)), some (.int (v3))]) rfl ?_; refine qt_aload_n (r := 2) rfl ?_; exact qt_z rfl rfl rfl rfl rfl) trivial ?_
  refine s_callV (a := 0) (a' := 0) (As := []) (id := 2) (st := []) kX10_failed l_2_160 (by decide +kernel) (q_id_of rfl) rfl (Nat.le_of_ble_eq_true rfl) (s_mono h (s_I_of (fun v5 u6 h => ?_)) (fun _ _ h9 => h9))
  show s_Ex (d + 1) 0 mX2_readCreditor 20 [some (.ref (o0)), some (.ref (2)), some (.int (v1)), some (.int (v3))] [.int (v5)] u6 Q X
  refine s_if (cd := .ne) (off := 42) 62 (by decide +kernel) (by decide) (fun hc => ?_) (fun hc => ?_)
  · replace h := h.1 hc
    exact s_retV (by decide +kernel) rfl h
  · replace h := h.2 hc
    obtain ⟨ho20, h⟩ := h
    refine s_blk [(.aload_n 0, 1, 0, 0), (.getfield 77, 3, 2, 0), (.bipush 6, 2, 0, 0)] 29 [some (.ref (o0)), some (.ref (2)), some (.int (v1)), some (.int (v3))] [.int (6), .int (u6.1 o0 0)] u6 [q_id 116 2 o0] (by decide +kernel) (by refine qt_aload_n (r := o0) rfl ?_; refine qt_getI rfl rfl ?_; refine qt_bipush qb_6 ?_; exact qt_z rfl rfl rfl rfl rfl) ho20 ?_
    refine s_icmp (cd := .ge) (off := 33) 62 (by decide +kernel) (by decide) (fun hc => ?_) (fun hc => ?_)
    · replace h := h.1 hc
      exact s_retV (by decide +kernel) rfl h
    · replace h := h.2 hc
      obtain ⟨ho10, h⟩ := h
      obtain ⟨ho11, h⟩ := h
      obtain ⟨ho12, h⟩ := h
      obtain ⟨ho13, h⟩ := h
      replace h := h _ rfl
      obtain ⟨ho14, h⟩ := h
      obtain ⟨ho15, h⟩ := h
      obtain ⟨ho16, h⟩ := h
      obtain ⟨ho17, h⟩ := h
      replace h := h _ rfl
      obtain ⟨ho18, h⟩ := h
      obtain ⟨ho19, h⟩ := h
      replace h := h _ rfl
      refine s_blk [(.aload_n 0, 1, 0, 0), (.getfield 9, 3, 2, 1), (.aload_n 0, 1, 0, 0), (.getfield 77, 3, 2, 0), (.iload_n 2, 1, 0, 0), (.iastore, 1, 0, 0), (.aload_n 0, 1, 0, 0), (.getfield 15, 3, 2, 2), (.aload_n 0, 1, 0, 0), (.getfield 77, 3, 2, 0), (.iload_n 3, 1, 0, 0), (.iastore, 1, 0, 0), (.aload_n 0, 1, 0, 0), (.dup, 1, 0, 0), (.getfield 77, 3, 2, 0), (.iconst 1, 1, 0, 0), (.iadd, 1, 0, 0), (.putfield 77, 3, 2, 0)] 62 [some (.ref (o0)), some (.ref (2)), some (.int (v1)), some (.int (v3))] [] (q_wI (q_wI (q_wI u6 (o0 + 1) (Int32.toNatClampNeg (u6.1 o0 0)) v1) (o0 + 2) (Int32.toNatClampNeg ((q_wI u6 (o0 + 1) (Int32.toNatClampNeg (u6.1 o0 0)) v1).1 o0 0)) v3) o0 0 (((q_wI (q_wI u6 (o0 + 1) (Int32.toNatClampNeg (u6.1 o0 0)) v1) (o0 + 2) (Int32.toNatClampNeg ((q_wI u6 (o0 + 1) (Int32.toNatClampNeg (u6.1 o0 0)) v1).1 o0 0)) v3).1 o0 0) + 1)) [q_id 116 2 o0, q_id 116 2 o0, q_id 116 14 (o0 + 1), vp_in (u6.1 o0 0) (q_sh (o0 + 1)).2, q_id 116 2 o0, q_id 116 2 o0, q_id 116 14 (o0 + 2), vp_in ((q_wI u6 (o0 + 1) (Int32.toNatClampNeg (u6.1 o0 0)) v1).1 o0 0) (q_sh (o0 + 2)).2, q_id 116 2 o0, q_id 116 2 o0] (by decide +kernel) (by refine qt_aload_n (r := o0) rfl ?_; refine qt_getR (r := o0 + 1) rfl rfl rfl ?_; refine qt_aload_n (r := o0) rfl ?_; refine qt_getI rfl rfl ?_; refine qt_iload_n (x := v1) rfl ?_; refine qt_iast ?_; refine qt_aload_n (r := o0) rfl ?_; refine qt_getR (r := o0 + 2) rfl rfl rfl ?_; refine qt_aload_n (r := o0) rfl ?_; refine qt_getI rfl rfl ?_; refine qt_iload_n (x := v3) rfl ?_; refine qt_iast ?_; refine qt_aload_n (r := o0) rfl ?_; refine qt_dupR ?_; refine qt_getI rfl rfl ?_; refine qt_iconst qc_1 ?_; refine qt_iadd ?_; refine qt_putI rfl ?_; exact qt_z rfl rfl rfl rfl rfl) ⟨ho10, ho11, ho12, ho13, ho14, ho15, ho16, ho17, ho18, ho19⟩ ?_
      exact s_retV (by decide +kernel) rfl h
theorem eX2_readCreditor {d : Nat} {o0 : Nat} {w : q_Sm} {Q : s_Po} {X : s_Xo} (h : vX2_readCreditor_0 d o0 w Q X) : s_Ev (d + 1) 0 mX2_readCreditor w [.ref (o0), .ref (2)] Q X := s_of (by decide +kernel) rfl (Nat.le_of_ble_eq_true rfl) (xX2_readCreditor_0 h)
