def vX12_decade_0 (d : Nat) (x1 : Int32) (x2 : Int32) (x3 : Int32) (w : q_Sm) (Q : s_Po) (X : s_Xo) : Prop := ∀ w_1 : q_Sm, w_1 = q_wI w 79 0 0 → s_EvI d 0 mX12_within w_1 [.int (x2), .int (1), .int (60)] (fun v2 u3 => ((v2 = 0) → s_EvI d 0 mX12_may u3 [.ref (79), .int (0), .int (1), .int (1)] (fun v4 u5 => ((¬ v4 = 0) → s_EvV d 0 mX12_goesOn u5 [.ref (79), .int (x1), .int (x2)] (fun u7 => ((¬ x3 = 0) → ((¬ x3 = 1) → ((¬ x3 = 2) → s_EvI d 0 mX12_spentIn u7 [.ref (79), .ref (105)] (fun v8 u9 => s_EvI d 0 mX12_spentIn u9 [.ref (79), .ref (104)] (fun v10 u11 => Q (some (.int (v8 - v10))) u11) X) X) ∧ (¬ (¬ x3 = 2) → Q (some (.int (u7.1 79 64))) u7)) ∧ (¬ (¬ x3 = 1) → s_EvI d 0 mX12_lateAll u7 [.ref (79)] (fun v12 u13 => Q (some (.int (v12))) u13) X)) ∧ (¬ (¬ x3 = 0) → s_EvI d 0 mX12_owedAll u7 [.ref (79)] (fun v14 u15 => Q (some (.int (v14))) u15) X)) X) ∧ (¬ (¬ v4 = 0) → Q (some (.int (0))) u5)) X) ∧ (¬ (v2 = 0) → s_EvI d 0 mX12_within u3 [.int (x3), .int (0), .int (3)] (fun v16 u17 => ((v16 = 0) → s_EvI d 0 mX12_may u17 [.ref (79), .int (0), .int (1), .int (1)] (fun v18 u19 => ((¬ v18 = 0) → s_EvV d 0 mX12_goesOn u19 [.ref (79), .int (x1), .int (x2)] (fun u21 => ((¬ x3 = 0) → ((¬ x3 = 1) → ((¬ x3 = 2) → s_EvI d 0 mX12_spentIn u21 [.ref (79), .ref (105)] (fun v22 u23 => s_EvI d 0 mX12_spentIn u23 [.ref (79), .ref (104)] (fun v24 u25 => Q (some (.int (v22 - v24))) u25) X) X) ∧ (¬ (¬ x3 = 2) → Q (some (.int (u21.1 79 64))) u21)) ∧ (¬ (¬ x3 = 1) → s_EvI d 0 mX12_lateAll u21 [.ref (79)] (fun v26 u27 => Q (some (.int (v26))) u27) X)) ∧ (¬ (¬ x3 = 0) → s_EvI d 0 mX12_owedAll u21 [.ref (79)] (fun v28 u29 => Q (some (.int (v28))) u29) X)) X) ∧ (¬ (¬ v18 = 0) → Q (some (.int (0))) u19)) X) ∧ (¬ (v16 = 0) → s_EvI d 0 mX12_may u17 [.ref (79), .int (1), .int (1), .int (1)] (fun v30 u31 => ((¬ v30 = 0) → s_EvV d 0 mX12_goesOn u31 [.ref (79), .int (x1), .int (x2)] (fun u33 => ((¬ x3 = 0) → ((¬ x3 = 1) → ((¬ x3 = 2) → s_EvI d 0 mX12_spentIn u33 [.ref (79), .ref (105)] (fun v34 u35 => s_EvI d 0 mX12_spentIn u35 [.ref (79), .ref (104)] (fun v36 u37 => Q (some (.int (v34 - v36))) u37) X) X) ∧ (¬ (¬ x3 = 2) → Q (some (.int (u33.1 79 64))) u33)) ∧ (¬ (¬ x3 = 1) → s_EvI d 0 mX12_lateAll u33 [.ref (79)] (fun v38 u39 => Q (some (.int (v38))) u39) X)) ∧ (¬ (¬ x3 = 0) → s_EvI d 0 mX12_owedAll u33 [.ref (79)] (fun v40 u41 => Q (some (.int (v40))) u41) X)) X) ∧ (¬ (¬ v30 = 0) → Q (some (.int (0))) u31)) X)) X)) X
theorem xX12_decade_0 {d : Nat} {x1 : Int32} {x2 : Int32} {x3 : Int32} {w : q_Sm} {Q : s_Po} {X : s_Xo} (h : vX12_decade_0 d x1 x2 x3 w Q X) : s_Ex (d + 1) 0 mX12_decade 0 [some (.ref (79)), some (.int (x1)), some (.int (x2)), some (.int (x3))] [] w Q X := by
  unfold vX12_decade_0 at h
  replace h := h _ rfl
  refine s_blk [(.aload_n 0, 1, 0, 0), (.iconst 0, 1, 0, 0), (.putfield 3, 3, 12, 0), (.aload_n 0, 1, 0, 0), (.iload_n 2, 1, 0, 0), (.iconst 1, 1, 0, 0), (.bipush 60, 2, 0, 0)] 10 [some (.ref (79)), some (.int (x1)), some (.int (x2)), some (.int (x3))] [.int (60), .int (1), .int (x2), .ref (79)] (q_wI w 79 0 0) [q_id 116 12 79] (by decide +kernel) (by refine qt_aload_n (r := 79) rfl ?_; refine qt_iconst qc_0 ?_; refine qt_putI rfl ?_; refine qt_aload_n (r := 79) rfl ?_; refine qt_iload_n (x := x2) rfl ?_; refine qt_iconst qc_1 ?_; refine qt_bipush qb_60 ?_; exact qt_z rfl rfl rfl rfl rfl) (q_id_of rfl) ?_
  refine s_callS (a := 0) (a' := 0) (As := [.int (x2), .int (1), .int (60)]) (st := [.ref (79)]) kX12_within l_12_410 (by decide +kernel) rfl (Nat.le_of_ble_eq_true rfl) (s_mono h (s_I_of (fun v2 u3 h => ?_)) (fun _ _ h9 => h9))
  show s_Ex (d + 1) 0 mX12_decade 13 [some (.ref (79)), some (.int (x1)), some (.int (x2)), some (.int (x3))] [.int (v2), .ref (79)] u3 Q X
  refine s_if (cd := .eq) (off := 16) 29 (by decide +kernel) (by decide) (fun hc => ?_) (fun hc => ?_)
  · replace h := h.1 hc
    refine s_blk [(.iconst 0, 1, 0, 0), (.iconst 1, 1, 0, 0), (.iconst 1, 1, 0, 0)] 32 [some (.ref (79)), some (.int (x1)), some (.int (x2)), some (.int (x3))] [.int (1), .int (1), .int (0), .ref (79)] u3 [] (by decide +kernel) (by refine qt_iconst qc_0 ?_; refine qt_iconst qc_1 ?_; refine qt_iconst qc_1 ?_; exact qt_z rfl rfl rfl rfl rfl) trivial ?_
    refine s_callV (a := 0) (a' := 0) (As := [.int (0), .int (1), .int (1)]) (id := 79) (st := []) kX12_may l_12_270 (by decide +kernel) (q_id_of rfl) rfl (Nat.le_of_ble_eq_true rfl) (s_mono h (s_I_of (fun v4 u5 h => ?_)) (fun _ _ h9 => h9))
    show s_Ex (d + 1) 0 mX12_decade 35 [some (.ref (79)), some (.int (x1)), some (.int (x2)), some (.int (x3))] [.int (v4)] u5 Q X
    refine s_if (cd := .ne) (off := 5) 40 (by decide +kernel) (by decide) (fun hc => ?_) (fun hc => ?_)
    · replace h := h.1 hc
      refine s_blk [(.aload_n 0, 1, 0, 0), (.iload_n 1, 1, 0, 0), (.iload_n 2, 1, 0, 0)] 43 [some (.ref (79)), some (.int (x1)), some (.int (x2)), some (.int (x3))] [.int (x2), .int (x1), .ref (79)] u5 [] (by decide +kernel) (by refine qt_aload_n (r := 79) rfl ?_; refine qt_iload_n (x := x1) rfl ?_; refine qt_iload_n (x := x2) rfl ?_; exact qt_z rfl rfl rfl rfl rfl) trivial ?_
      refine s_callV (a := 0) (a' := 0) (As := [.int (x1), .int (x2)]) (id := 79) (st := []) kX12_goesOn l_12_517 (by decide +kernel) (q_id_of rfl) rfl (Nat.le_of_ble_eq_true rfl) (s_mono h (s_V_of (fun u7 h => ?_)) (fun _ _ h9 => h9))
      show s_Ex (d + 1) 0 mX12_decade 46 [some (.ref (79)), some (.int (x1)), some (.int (x2)), some (.int (x3))] [] u7 Q X
      refine s_blk [(.iload_n 3, 1, 0, 0)] 47 [some (.ref (79)), some (.int (x1)), some (.int (x2)), some (.int (x3))] [.int (x3)] u7 [] (by decide +kernel) (by refine qt_iload_n (x := x3) rfl ?_; exact qt_z rfl rfl rfl rfl rfl) trivial ?_
      refine s_if (cd := .ne) (off := 10) 57 (by decide +kernel) (by decide) (fun hc => ?_) (fun hc => ?_)
      · replace h := h.1 hc
        refine s_blk [(.iload_n 3, 1, 0, 0), (.iconst 1, 1, 0, 0)] 59 [some (.ref (79)), some (.int (x1)), some (.int (x2)), some (.int (x3))] [.int (1), .int (x3)] u7 [] (by decide +kernel) (by refine qt_iload_n (x := x3) rfl ?_; refine qt_iconst qc_1 ?_; exact qt_z rfl rfl rfl rfl rfl) trivial ?_
        refine s_icmp (cd := .ne) (off := 10) 69 (by decide +kernel) (by decide) (fun hc => ?_) (fun hc => ?_)
        · replace h := h.1 hc
          refine s_blk [(.iload_n 3, 1, 0, 0), (.iconst 2, 1, 0, 0)] 71 [some (.ref (79)), some (.int (x1)), some (.int (x2)), some (.int (x3))] [.int (2), .int (x3)] u7 [] (by decide +kernel) (by refine qt_iload_n (x := x3) rfl ?_; refine qt_iconst qc_2 ?_; exact qt_z rfl rfl rfl rfl rfl) trivial ?_
          refine s_icmp (cd := .ne) (off := 10) 81 (by decide +kernel) (by decide) (fun hc => ?_) (fun hc => ?_)
          · replace h := h.1 hc
            refine s_blk [(.aload_n 0, 1, 0, 0), (.aload_n 0, 1, 0, 0), (.getfield 92, 3, 12, 51)] 86 [some (.ref (79)), some (.int (x1)), some (.int (x2)), some (.int (x3))] [.ref (105), .ref (79)] u7 [q_id 116 12 79] (by decide +kernel) (by refine qt_aload_n (r := 79) rfl ?_; refine qt_aload_n (r := 79) rfl ?_; refine qt_getR (r := 105) rfl rfl ?_; exact qt_z rfl rfl rfl rfl rfl) (q_id_of rfl) ?_
            refine s_callV (a := 0) (a' := 0) (As := [.ref (105)]) (id := 79) (st := []) kX12_spentIn l_12_520 (by decide +kernel) (q_id_of rfl) rfl (Nat.le_of_ble_eq_true rfl) (s_mono h (s_I_of (fun v8 u9 h => ?_)) (fun _ _ h9 => h9))
            show s_Ex (d + 1) 0 mX12_decade 89 [some (.ref (79)), some (.int (x1)), some (.int (x2)), some (.int (x3))] [.int (v8)] u9 Q X
            refine s_blk [(.aload_n 0, 1, 0, 0), (.aload_n 0, 1, 0, 0), (.getfield 89, 3, 12, 50)] 94 [some (.ref (79)), some (.int (x1)), some (.int (x2)), some (.int (x3))] [.ref (104), .ref (79), .int (v8)] u9 [q_id 116 12 79] (by decide +kernel) (by refine qt_aload_n (r := 79) rfl ?_; refine qt_aload_n (r := 79) rfl ?_; refine qt_getR (r := 104) rfl rfl ?_; exact qt_z rfl rfl rfl rfl rfl) (q_id_of rfl) ?_
            refine s_callV (a := 0) (a' := 0) (As := [.ref (104)]) (id := 79) (st := [.int (v8)]) kX12_spentIn l_12_520 (by decide +kernel) (q_id_of rfl) rfl (Nat.le_of_ble_eq_true rfl) (s_mono h (s_I_of (fun v10 u11 h => ?_)) (fun _ _ h9 => h9))
            show s_Ex (d + 1) 0 mX12_decade 97 [some (.ref (79)), some (.int (x1)), some (.int (x2)), some (.int (x3))] [.int (v10), .int (v8)] u11 Q X
            refine s_blk [(.isub, 1, 0, 0)] 98 [some (.ref (79)), some (.int (x1)), some (.int (x2)), some (.int (x3))] [.int (v8 - v10)] u11 [] (by decide +kernel) (by refine qt_isub ?_; exact qt_z rfl rfl rfl rfl rfl) trivial ?_
            exact s_retI .int (by decide +kernel) rfl rfl h
          · replace h := h.2 hc
            refine s_blk [(.aload_n 0, 1, 0, 0), (.getfield 511, 3, 12, 64), (.goto 20, 3, 98, 0)] 98 [some (.ref (79)), some (.int (x1)), some (.int (x2)), some (.int (x3))] [.int (u7.1 79 64)] u7 [q_id 116 12 79] (by decide +kernel) (by refine qt_aload_n (r := 79) rfl ?_; refine qt_getI rfl ?_; refine qt_goto ?_; exact qt_z rfl rfl rfl rfl rfl) (q_id_of rfl) ?_
            exact s_retI .int (by decide +kernel) rfl rfl h
        · replace h := h.2 hc
          refine s_blk [(.aload_n 0, 1, 0, 0)] 63 [some (.ref (79)), some (.int (x1)), some (.int (x2)), some (.int (x3))] [.ref (79)] u7 [] (by decide +kernel) (by refine qt_aload_n (r := 79) rfl ?_; exact qt_z rfl rfl rfl rfl rfl) trivial ?_
          refine s_callV (a := 0) (a' := 0) (As := []) (id := 79) (st := []) kX12_lateAll l_12_416 (by decide +kernel) (q_id_of rfl) rfl (Nat.le_of_ble_eq_true rfl) (s_mono h (s_I_of (fun v12 u13 h => ?_)) (fun _ _ h9 => h9))
          show s_Ex (d + 1) 0 mX12_decade 66 [some (.ref (79)), some (.int (x1)), some (.int (x2)), some (.int (x3))] [.int (v12)] u13 Q X
          refine s_blk [(.goto 32, 3, 98, 0)] 98 [some (.ref (79)), some (.int (x1)), some (.int (x2)), some (.int (x3))] [.int (v12)] u13 [] (by decide +kernel) (by refine qt_goto ?_; exact qt_z rfl rfl rfl rfl rfl) trivial ?_
          exact s_retI .int (by decide +kernel) rfl rfl h
      · replace h := h.2 hc
        refine s_blk [(.aload_n 0, 1, 0, 0)] 51 [some (.ref (79)), some (.int (x1)), some (.int (x2)), some (.int (x3))] [.ref (79)] u7 [] (by decide +kernel) (by refine qt_aload_n (r := 79) rfl ?_; exact qt_z rfl rfl rfl rfl rfl) trivial ?_
        refine s_callV (a := 0) (a' := 0) (As := []) (id := 79) (st := []) kX12_owedAll l_12_413 (by decide +kernel) (q_id_of rfl) rfl (Nat.le_of_ble_eq_true rfl) (s_mono h (s_I_of (fun v14 u15 h => ?_)) (fun _ _ h9 => h9))
        show s_Ex (d + 1) 0 mX12_decade 54 [some (.ref (79)), some (.int (x1)), some (.int (x2)), some (.int (x3))] [.int (v14)] u15 Q X
        refine s_blk [(.goto 44, 3, 98, 0)] 98 [some (.ref (79)), some (.int (x1)), some (.int (x2)), some (.int (x3))] [.int (v14)] u15 [] (by decide +kernel) (by refine qt_goto ?_; exact qt_z rfl rfl rfl rfl rfl) trivial ?_
        exact s_retI .int (by decide +kernel) rfl rfl h
    · replace h := h.2 hc
      refine s_blk [(.iconst 0, 1, 0, 0)] 39 [some (.ref (79)), some (.int (x1)), some (.int (x2)), some (.int (x3))] [.int (0)] u5 [] (by decide +kernel) (by refine qt_iconst qc_0 ?_; exact qt_z rfl rfl rfl rfl rfl) trivial ?_
      exact s_retI .int (by decide +kernel) rfl rfl h
  · replace h := h.2 hc
    refine s_blk [(.iload_n 3, 1, 0, 0), (.iconst 0, 1, 0, 0), (.iconst 3, 1, 0, 0)] 19 [some (.ref (79)), some (.int (x1)), some (.int (x2)), some (.int (x3))] [.int (3), .int (0), .int (x3), .ref (79)] u3 [] (by decide +kernel) (by refine qt_iload_n (x := x3) rfl ?_; refine qt_iconst qc_0 ?_; refine qt_iconst qc_3 ?_; exact qt_z rfl rfl rfl rfl rfl) trivial ?_
    refine s_callS (a := 0) (a' := 0) (As := [.int (x3), .int (0), .int (3)]) (st := [.ref (79)]) kX12_within l_12_410 (by decide +kernel) rfl (Nat.le_of_ble_eq_true rfl) (s_mono h (s_I_of (fun v16 u17 h => ?_)) (fun _ _ h9 => h9))
    show s_Ex (d + 1) 0 mX12_decade 22 [some (.ref (79)), some (.int (x1)), some (.int (x2)), some (.int (x3))] [.int (v16), .ref (79)] u17 Q X
    refine s_if (cd := .eq) (off := 7) 29 (by decide +kernel) (by decide) (fun hc => ?_) (fun hc => ?_)
    · replace h := h.1 hc
      refine s_blk [(.iconst 0, 1, 0, 0), (.iconst 1, 1, 0, 0), (.iconst 1, 1, 0, 0)] 32 [some (.ref (79)), some (.int (x1)), some (.int (x2)), some (.int (x3))] [.int (1), .int (1), .int (0), .ref (79)] u17 [] (by decide +kernel) (by refine qt_iconst qc_0 ?_; refine qt_iconst qc_1 ?_; refine qt_iconst qc_1 ?_; exact qt_z rfl rfl rfl rfl rfl) trivial ?_
      refine s_callV (a := 0) (a' := 0) (As := [.int (0), .int (1), .int (1)]) (id := 79) (st := []) kX12_may l_12_270 (by decide +kernel) (q_id_of rfl) rfl (Nat.le_of_ble_eq_true rfl) (s_mono h (s_I_of (fun v18 u19 h => ?_)) (fun _ _ h9 => h9))
      show s_Ex (d + 1) 0 mX12_decade 35 [some (.ref (79)), some (.int (x1)), some (.int (x2)), some (.int (x3))] [.int (v18)] u19 Q X
      refine s_if (cd := .ne) (off := 5) 40 (by decide +kernel) (by decide) (fun hc => ?_) (fun hc => ?_)
      · replace h := h.1 hc
        refine s_blk [(.aload_n 0, 1, 0, 0), (.iload_n 1, 1, 0, 0), (.iload_n 2, 1, 0, 0)] 43 [some (.ref (79)), some (.int (x1)), some (.int (x2)), some (.int (x3))] [.int (x2), .int (x1), .ref (79)] u19 [] (by decide +kernel) (by refine qt_aload_n (r := 79) rfl ?_; refine qt_iload_n (x := x1) rfl ?_; refine qt_iload_n (x := x2) rfl ?_; exact qt_z rfl rfl rfl rfl rfl) trivial ?_
        refine s_callV (a := 0) (a' := 0) (As := [.int (x1), .int (x2)]) (id := 79) (st := []) kX12_goesOn l_12_517 (by decide +kernel) (q_id_of rfl) rfl (Nat.le_of_ble_eq_true rfl) (s_mono h (s_V_of (fun u21 h => ?_)) (fun _ _ h9 => h9))
        show s_Ex (d + 1) 0 mX12_decade 46 [some (.ref (79)), some (.int (x1)), some (.int (x2)), some (.int (x3))] [] u21 Q X
        refine s_blk [(.iload_n 3, 1, 0, 0)] 47 [some (.ref (79)), some (.int (x1)), some (.int (x2)), some (.int (x3))] [.int (x3)] u21 [] (by decide +kernel) (by refine qt_iload_n (x := x3) rfl ?_; exact qt_z rfl rfl rfl rfl rfl) trivial ?_
        refine s_if (cd := .ne) (off := 10) 57 (by decide +kernel) (by decide) (fun hc => ?_) (fun hc => ?_)
        · replace h := h.1 hc
          refine s_blk [(.iload_n 3, 1, 0, 0), (.iconst 1, 1, 0, 0)] 59 [some (.ref (79)), some (.int (x1)), some (.int (x2)), some (.int (x3))] [.int (1), .int (x3)] u21 [] (by decide +kernel) (by refine qt_iload_n (x := x3) rfl ?_; refine qt_iconst qc_1 ?_; exact qt_z rfl rfl rfl rfl rfl) trivial ?_
          refine s_icmp (cd := .ne) (off := 10) 69 (by decide +kernel) (by decide) (fun hc => ?_) (fun hc => ?_)
          · replace h := h.1 hc
            refine s_blk [(.iload_n 3, 1, 0, 0), (.iconst 2, 1, 0, 0)] 71 [some (.ref (79)), some (.int (x1)), some (.int (x2)), some (.int (x3))] [.int (2), .int (x3)] u21 [] (by decide +kernel) (by refine qt_iload_n (x := x3) rfl ?_; refine qt_iconst qc_2 ?_; exact qt_z rfl rfl rfl rfl rfl) trivial ?_
            refine s_icmp (cd := .ne) (off := 10) 81 (by decide +kernel) (by decide) (fun hc => ?_) (fun hc => ?_)
            · replace h := h.1 hc
              refine s_blk [(.aload_n 0, 1, 0, 0), (.aload_n 0, 1, 0, 0), (.getfield 92, 3, 12, 51)] 86 [some (.ref (79)), some (.int (x1)), some (.int (x2)), some (.int (x3))] [.ref (105), .ref (79)] u21 [q_id 116 12 79] (by decide +kernel) (by refine qt_aload_n (r := 79) rfl ?_; refine qt_aload_n (r := 79) rfl ?_; refine qt_getR (r := 105) rfl rfl ?_; exact qt_z rfl rfl rfl rfl rfl) (q_id_of rfl) ?_
              refine s_callV (a := 0) (a' := 0) (As := [.ref (105)]) (id := 79) (st := []) kX12_spentIn l_12_520 (by decide +kernel) (q_id_of rfl) rfl (Nat.le_of_ble_eq_true rfl) (s_mono h (s_I_of (fun v22 u23 h => ?_)) (fun _ _ h9 => h9))
              show s_Ex (d + 1) 0 mX12_decade 89 [some (.ref (79)), some (.int (x1)), some (.int (x2)), some (.int (x3))] [.int (v22)] u23 Q X
              refine s_blk [(.aload_n 0, 1, 0, 0), (.aload_n 0, 1, 0, 0), (.getfield 89, 3, 12, 50)] 94 [some (.ref (79)), some (.int (x1)), some (.int (x2)), some (.int (x3))] [.ref (104), .ref (79), .int (v22)] u23 [q_id 116 12 79] (by decide +kernel) (by refine qt_aload_n (r := 79) rfl ?_; refine qt_aload_n (r := 79) rfl ?_; refine qt_getR (r := 104) rfl rfl ?_; exact qt_z rfl rfl rfl rfl rfl) (q_id_of rfl) ?_
              refine s_callV (a := 0) (a' := 0) (As := [.ref (104)]) (id := 79) (st := [.int (v22)]) kX12_spentIn l_12_520 (by decide +kernel) (q_id_of rfl) rfl (Nat.le_of_ble_eq_true rfl) (s_mono h (s_I_of (fun v24 u25 h => ?_)) (fun _ _ h9 => h9))
              show s_Ex (d + 1) 0 mX12_decade 97 [some (.ref (79)), some (.int (x1)), some (.int (x2)), some (.int (x3))] [.int (v24), .int (v22)] u25 Q X
              refine s_blk [(.isub, 1, 0, 0)] 98 [some (.ref (79)), some (.int (x1)), some (.int (x2)), some (.int (x3))] [.int (v22 - v24)] u25 [] (by decide +kernel) (by refine qt_isub ?_; exact qt_z rfl rfl rfl rfl rfl) trivial ?_
              exact s_retI .int (by decide +kernel) rfl rfl h
            · replace h := h.2 hc
              refine s_blk [(.aload_n 0, 1, 0, 0), (.getfield 511, 3, 12, 64), (.goto 20, 3, 98, 0)] 98 [some (.ref (79)), some (.int (x1)), some (.int (x2)), some (.int (x3))] [.int (u21.1 79 64)] u21 [q_id 116 12 79] (by decide +kernel) (by refine qt_aload_n (r := 79) rfl ?_; refine qt_getI rfl ?_; refine qt_goto ?_; exact qt_z rfl rfl rfl rfl rfl) (q_id_of rfl) ?_
              exact s_retI .int (by decide +kernel) rfl rfl h
          · replace h := h.2 hc
            refine s_blk [(.aload_n 0, 1, 0, 0)] 63 [some (.ref (79)), some (.int (x1)), some (.int (x2)), some (.int (x3))] [.ref (79)] u21 [] (by decide +kernel) (by refine qt_aload_n (r := 79) rfl ?_; exact qt_z rfl rfl rfl rfl rfl) trivial ?_
            refine s_callV (a := 0) (a' := 0) (As := []) (id := 79) (st := []) kX12_lateAll l_12_416 (by decide +kernel) (q_id_of rfl) rfl (Nat.le_of_ble_eq_true rfl) (s_mono h (s_I_of (fun v26 u27 h => ?_)) (fun _ _ h9 => h9))
            show s_Ex (d + 1) 0 mX12_decade 66 [some (.ref (79)), some (.int (x1)), some (.int (x2)), some (.int (x3))] [.int (v26)] u27 Q X
            refine s_blk [(.goto 32, 3, 98, 0)] 98 [some (.ref (79)), some (.int (x1)), some (.int (x2)), some (.int (x3))] [.int (v26)] u27 [] (by decide +kernel) (by refine qt_goto ?_; exact qt_z rfl rfl rfl rfl rfl) trivial ?_
            exact s_retI .int (by decide +kernel) rfl rfl h
        · replace h := h.2 hc
          refine s_blk [(.aload_n 0, 1, 0, 0)] 51 [some (.ref (79)), some (.int (x1)), some (.int (x2)), some (.int (x3))] [.ref (79)] u21 [] (by decide +kernel) (by refine qt_aload_n (r := 79) rfl ?_; exact qt_z rfl rfl rfl rfl rfl) trivial ?_
          refine s_callV (a := 0) (a' := 0) (As := []) (id := 79) (st := []) kX12_owedAll l_12_413 (by decide +kernel) (q_id_of rfl) rfl (Nat.le_of_ble_eq_true rfl) (s_mono h (s_I_of (fun v28 u29 h => ?_)) (fun _ _ h9 => h9))
          show s_Ex (d + 1) 0 mX12_decade 54 [some (.ref (79)), some (.int (x1)), some (.int (x2)), some (.int (x3))] [.int (v28)] u29 Q X
          refine s_blk [(.goto 44, 3, 98, 0)] 98 [some (.ref (79)), some (.int (x1)), some (.int (x2)), some (.int (x3))] [.int (v28)] u29 [] (by decide +kernel) (by refine qt_goto ?_; exact qt_z rfl rfl rfl rfl rfl) trivial ?_
          exact s_retI .int (by decide +kernel) rfl rfl h
      · replace h := h.2 hc
        refine s_blk [(.iconst 0, 1, 0, 0)] 39 [some (.ref (79)), some (.int (x1)), some (.int (x2)), some (.int (x3))] [.int (0)] u19 [] (by decide +kernel) (by refine qt_iconst qc_0 ?_; exact qt_z rfl rfl rfl rfl rfl) trivial ?_
        exact s_retI .int (by decide +kernel) rfl rfl h
    · replace h := h.2 hc
      refine s_blk [(.iconst 1, 1, 0, 0), (.goto 4, 3, 30, 0), (.iconst 1, 1, 0, 0), (.iconst 1, 1, 0, 0)] 32 [some (.ref (79)), some (.int (x1)), some (.int (x2)), some (.int (x3))] [.int (1), .int (1), .int (1), .ref (79)] u17 [] (by decide +kernel) (by refine qt_iconst qc_1 ?_; refine qt_goto ?_; refine qt_iconst qc_1 ?_; refine qt_iconst qc_1 ?_; exact qt_z rfl rfl rfl rfl rfl) trivial ?_
      refine s_callV (a := 0) (a' := 0) (As := [.int (1), .int (1), .int (1)]) (id := 79) (st := []) kX12_may l_12_270 (by decide +kernel) (q_id_of rfl) rfl (Nat.le_of_ble_eq_true rfl) (s_mono h (s_I_of (fun v30 u31 h => ?_)) (fun _ _ h9 => h9))
      show s_Ex (d + 1) 0 mX12_decade 35 [some (.ref (79)), some (.int (x1)), some (.int (x2)), some (.int (x3))] [.int (v30)] u31 Q X
      refine s_if (cd := .ne) (off := 5) 40 (by decide +kernel) (by decide) (fun hc => ?_) (fun hc => ?_)
      · replace h := h.1 hc
        refine s_blk [(.aload_n 0, 1, 0, 0), (.iload_n 1, 1, 0, 0), (.iload_n 2, 1, 0, 0)] 43 [some (.ref (79)), some (.int (x1)), some (.int (x2)), some (.int (x3))] [.int (x2), .int (x1), .ref (79)] u31 [] (by decide +kernel) (by refine qt_aload_n (r := 79) rfl ?_; refine qt_iload_n (x := x1) rfl ?_; refine qt_iload_n (x := x2) rfl ?_; exact qt_z rfl rfl rfl rfl rfl) trivial ?_
        refine s_callV (a := 0) (a' := 0) (As := [.int (x1), .int (x2)]) (id := 79) (st := []) kX12_goesOn l_12_517 (by decide +kernel) (q_id_of rfl) rfl (Nat.le_of_ble_eq_true rfl) (s_mono h (s_V_of (fun u33 h => ?_)) (fun _ _ h9 => h9))
        show s_Ex (d + 1) 0 mX12_decade 46 [some (.ref (79)), some (.int (x1)), some (.int (x2)), some (.int (x3))] [] u33 Q X
        refine s_blk [(.iload_n 3, 1, 0, 0)] 47 [some (.ref (79)), some (.int (x1)), some (.int (x2)), some (.int (x3))] [.int (x3)] u33 [] (by decide +kernel) (by refine qt_iload_n (x := x3) rfl ?_; exact qt_z rfl rfl rfl rfl rfl) trivial ?_
        refine s_if (cd := .ne) (off := 10) 57 (by decide +kernel) (by decide) (fun hc => ?_) (fun hc => ?_)
        · replace h := h.1 hc
          refine s_blk [(.iload_n 3, 1, 0, 0), (.iconst 1, 1, 0, 0)] 59 [some (.ref (79)), some (.int (x1)), some (.int (x2)), some (.int (x3))] [.int (1), .int (x3)] u33 [] (by decide +kernel) (by refine qt_iload_n (x := x3) rfl ?_; refine qt_iconst qc_1 ?_; exact qt_z rfl rfl rfl rfl rfl) trivial ?_
          refine s_icmp (cd := .ne) (off := 10) 69 (by decide +kernel) (by decide) (fun hc => ?_) (fun hc => ?_)
          · replace h := h.1 hc
            refine s_blk [(.iload_n 3, 1, 0, 0), (.iconst 2, 1, 0, 0)] 71 [some (.ref (79)), some (.int (x1)), some (.int (x2)), some (.int (x3))] [.int (2), .int (x3)] u33 [] (by decide +kernel) (by refine qt_iload_n (x := x3) rfl ?_; refine qt_iconst qc_2 ?_; exact qt_z rfl rfl rfl rfl rfl) trivial ?_
            refine s_icmp (cd := .ne) (off := 10) 81 (by decide +kernel) (by decide) (fun hc => ?_) (fun hc => ?_)
            · replace h := h.1 hc
              refine s_blk [(.aload_n 0, 1, 0, 0), (.aload_n 0, 1, 0, 0), (.getfield 92, 3, 12, 51)] 86 [some (.ref (79)), some (.int (x1)), some (.int (x2)), some (.int (x3))] [.ref (105), .ref (79)] u33 [q_id 116 12 79] (by decide +kernel) (by refine qt_aload_n (r := 79) rfl ?_; refine qt_aload_n (r := 79) rfl ?_; refine qt_getR (r := 105) rfl rfl ?_; exact qt_z rfl rfl rfl rfl rfl) (q_id_of rfl) ?_
              refine s_callV (a := 0) (a' := 0) (As := [.ref (105)]) (id := 79) (st := []) kX12_spentIn l_12_520 (by decide +kernel) (q_id_of rfl) rfl (Nat.le_of_ble_eq_true rfl) (s_mono h (s_I_of (fun v34 u35 h => ?_)) (fun _ _ h9 => h9))
              show s_Ex (d + 1) 0 mX12_decade 89 [some (.ref (79)), some (.int (x1)), some (.int (x2)), some (.int (x3))] [.int (v34)] u35 Q X
              refine s_blk [(.aload_n 0, 1, 0, 0), (.aload_n 0, 1, 0, 0), (.getfield 89, 3, 12, 50)] 94 [some (.ref (79)), some (.int (x1)), some (.int (x2)), some (.int (x3))] [.ref (104), .ref (79), .int (v34)] u35 [q_id 116 12 79] (by decide +kernel) (by refine qt_aload_n (r := 79) rfl ?_; refine qt_aload_n (r := 79) rfl ?_; refine qt_getR (r := 104) rfl rfl ?_; exact qt_z rfl rfl rfl rfl rfl) (q_id_of rfl) ?_
              refine s_callV (a := 0) (a' := 0) (As := [.ref (104)]) (id := 79) (st := [.int (v34)]) kX12_spentIn l_12_520 (by decide +kernel) (q_id_of rfl) rfl (Nat.le_of_ble_eq_true rfl) (s_mono h (s_I_of (fun v36 u37 h => ?_)) (fun _ _ h9 => h9))
              show s_Ex (d + 1) 0 mX12_decade 97 [some (.ref (79)), some (.int (x1)), some (.int (x2)), some (.int (x3))] [.int (v36), .int (v34)] u37 Q X
              refine s_blk [(.isub, 1, 0, 0)] 98 [some (.ref (79)), some (.int (x1)), some (.int (x2)), some (.int (x3))] [.int (v34 - v36)] u37 [] (by decide +kernel) (by refine qt_isub ?_; exact qt_z rfl rfl rfl rfl rfl) trivial ?_
              exact s_retI .int (by decide +kernel) rfl rfl h
            · replace h := h.2 hc
              refine s_blk [(.aload_n 0, 1, 0, 0), (.getfield 511, 3, 12, 64), (.goto 20, 3, 98, 0)] 98 [some (.ref (79)), some (.int (x1)), some (.int (x2)), some (.int (x3))] [.int (u33.1 79 64)] u33 [q_id 116 12 79] (by decide +kernel) (by refine qt_aload_n (r := 79) rfl ?_; refine qt_getI rfl ?_; refine qt_goto ?_; exact qt_z rfl rfl rfl rfl rfl) (q_id_of rfl) ?_
              exact s_retI .int (by decide +kernel) rfl rfl h
          · replace h := h.2 hc
            refine s_blk [(.aload_n 0, 1, 0, 0)] 63 [some (.ref (79)), some (.int (x1)), some (.int (x2)), some (.int (x3))] [.ref (79)] u33 [] (by decide +kernel) (by refine qt_aload_n (r := 79) rfl ?_; exact qt_z rfl rfl rfl rfl rfl) trivial ?_
            refine s_callV (a := 0) (a' := 0) (As := []) (id := 79) (st := []) kX12_lateAll l_12_416 (by decide +kernel) (q_id_of rfl) rfl (Nat.le_of_ble_eq_true rfl) (s_mono h (s_I_of (fun v38 u39 h => ?_)) (fun _ _ h9 => h9))
            show s_Ex (d + 1) 0 mX12_decade 66 [some (.ref (79)), some (.int (x1)), some (.int (x2)), some (.int (x3))] [.int (v38)] u39 Q X
            refine s_blk [(.goto 32, 3, 98, 0)] 98 [some (.ref (79)), some (.int (x1)), some (.int (x2)), some (.int (x3))] [.int (v38)] u39 [] (by decide +kernel) (by refine qt_goto ?_; exact qt_z rfl rfl rfl rfl rfl) trivial ?_
            exact s_retI .int (by decide +kernel) rfl rfl h
        · replace h := h.2 hc
          refine s_blk [(.aload_n 0, 1, 0, 0)] 51 [some (.ref (79)), some (.int (x1)), some (.int (x2)), some (.int (x3))] [.ref (79)] u33 [] (by decide +kernel) (by refine qt_aload_n (r := 79) rfl ?_; exact qt_z rfl rfl rfl rfl rfl) trivial ?_
          refine s_callV (a := 0) (a' := 0) (As := []) (id := 79) (st := []) kX12_owedAll l_12_413 (by decide +kernel) (q_id_of rfl) rfl (Nat.le_of_ble_eq_true rfl) (s_mono h (s_I_of (fun v40 u41 h => ?_)) (fun _ _ h9 => h9))
          show s_Ex (d + 1) 0 mX12_decade 54 [some (.ref (79)), some (.int (x1)), some (.int (x2)), some (.int (x3))] [.int (v40)] u41 Q X
          refine s_blk [(.goto 44, 3, 98, 0)] 98 [some (.ref (79)), some (.int (x1)), some (.int (x2)), some (.int (x3))] [.int (v40)] u41 [] (by decide +kernel) (by refine qt_goto ?_; exact qt_z rfl rfl rfl rfl rfl) trivial ?_
          exact s_retI .int (by decide +kernel) rfl rfl h
      · replace h := h.2 hc
        refine s_blk [(.iconst 0, 1, 0, 0)] 39 [some (.ref (79)), some (.int (x1)), some (.int (x2)), some (.int (x3))] [.int (0)] u31 [] (by decide +kernel) (by refine qt_iconst qc_0 ?_; exact qt_z rfl rfl rfl rfl rfl) trivial ?_
        exact s_retI .int (by decide +kernel) rfl rfl h
theorem eX12_decade {d : Nat} {x1 : Int32} {x2 : Int32} {x3 : Int32} {w : q_Sm} {Q : s_Po} {X : s_Xo} (h : vX12_decade_0 d x1 x2 x3 w Q X) : s_Ev (d + 1) 0 mX12_decade w [.ref (79), .int (x1), .int (x2), .int (x3)] Q X := s_of (by decide) rfl (Nat.le_of_ble_eq_true rfl) (xX12_decade_0 h)
def vX12_span_0 (d : Nat) (x1 : Int32) (x2 : Int32) (x3 : Int32) (x4 : Int32) (w : q_Sm) (Q : s_Po) (X : s_Xo) : Prop := ∀ w_1 : q_Sm, w_1 = q_wI w 79 0 0 → s_EvI d 0 mX12_within w_1 [.int (x2), .int (1), .int (20)] (fun v2 u3 => ((v2 = 0) → s_EvI d 0 mX12_may u3 [.ref (79), .int (0), .int (1), .int (1)] (fun v4 u5 => ((¬ v4 = 0) → s_Ex (d + 1) 0 mX12_span 63 [some (.ref (79)), some (.int (x1)), some (.int (x2)), some (.int (x3)), some (.int (x4)), some (.int (-1)), some (.int (0)), some (.int (0)), some (.int (0)), none] [] u5 Q X) ∧ (¬ (¬ v4 = 0) → Q (some (.int (0))) u5)) X) ∧ (¬ (v2 = 0) → s_EvI d 0 mX12_within u3 [.int (x3), .int (1), .int (60)] (fun v6 u7 => ((v6 = 0) → s_EvI d 0 mX12_may u7 [.ref (79), .int (0), .int (1), .int (1)] (fun v8 u9 => ((¬ v8 = 0) → s_Ex (d + 1) 0 mX12_span 63 [some (.ref (79)), some (.int (x1)), some (.int (x2)), some (.int (x3)), some (.int (x4)), some (.int (-1)), some (.int (0)), some (.int (0)), some (.int (0)), none] [] u9 Q X) ∧ (¬ (¬ v8 = 0) → Q (some (.int (0))) u9)) X) ∧ (¬ (v6 = 0) → s_EvI d 0 mX12_within u7 [.int (x4), .int (0), .int (2)] (fun v10 u11 => ((v10 = 0) → s_EvI d 0 mX12_may u11 [.ref (79), .int (0), .int (1), .int (1)] (fun v12 u13 => ((¬ v12 = 0) → s_Ex (d + 1) 0 mX12_span 63 [some (.ref (79)), some (.int (x1)), some (.int (x2)), some (.int (x3)), some (.int (x4)), some (.int (-1)), some (.int (0)), some (.int (0)), some (.int (0)), none] [] u13 Q X) ∧ (¬ (¬ v12 = 0) → Q (some (.int (0))) u13)) X) ∧ (¬ (v10 = 0) → s_EvI d 0 mX12_may u11 [.ref (79), .int (1), .int (1), .int (1)] (fun v14 u15 => ((¬ v14 = 0) → s_Ex (d + 1) 0 mX12_span 63 [some (.ref (79)), some (.int (x1)), some (.int (x2)), some (.int (x3)), some (.int (x4)), some (.int (-1)), some (.int (0)), some (.int (0)), some (.int (0)), none] [] u15 Q X) ∧ (¬ (¬ v14 = 0) → Q (some (.int (0))) u15)) X)) X)) X)) X
def vX12_span_63 (d : Nat) (x1 : Int32) (x2 : Int32) (x3 : Int32) (x4 : Int32) (x5 : Int32) (x6 : Int32) (x7 : Int32) (x8 : Int32) (w : q_Sm) (Q : s_Po) (X : s_Xo) : Prop := ((x2 ≤ x8) → ((¬ x4 = 0) → ((¬ x4 = 1) → Q (some (.int (x7))) w) ∧ (¬ (¬ x4 = 1) → Q (some (.int (x6))) w)) ∧ (¬ (¬ x4 = 0) → Q (some (.int (x5))) w)) ∧ (¬ (x2 ≤ x8) → s_EvV d 0 mX12_goesOn w [.ref (79), .int (x1 + x8), .int (x3)] (fun u17 => s_EvI d 0 mX12_owedAll u17 [.ref (79)] (fun v18 u19 => ((x5 = (-1)) → ((v18 ≤ x6) → s_EvI d 0 mX12_lateAll u19 [.ref (79)] (fun v20 u21 => ((¬ v20 = 0) → s_Ex (d + 1) 0 mX12_span 63 [some (.ref (79)), some (.int (x1)), some (.int (x2)), some (.int (x3)), some (.int (x4)), some (.int (v18)), some (.int (x6)), some (.int (x7 + 0)), some (.int (x8 + 1)), none] [] u21 Q X) ∧ (¬ (¬ v20 = 0) → s_Ex (d + 1) 0 mX12_span 63 [some (.ref (79)), some (.int (x1)), some (.int (x2)), some (.int (x3)), some (.int (x4)), some (.int (v18)), some (.int (x6)), some (.int (x7 + 1)), some (.int (x8 + 1)), none] [] u21 Q X)) X) ∧ (¬ (v18 ≤ x6) → s_EvI d 0 mX12_lateAll u19 [.ref (79)] (fun v22 u23 => ((¬ v22 = 0) → s_Ex (d + 1) 0 mX12_span 63 [some (.ref (79)), some (.int (x1)), some (.int (x2)), some (.int (x3)), some (.int (x4)), some (.int (v18)), some (.int (v18)), some (.int (x7 + 0)), some (.int (x8 + 1)), none] [] u23 Q X) ∧ (¬ (¬ v22 = 0) → s_Ex (d + 1) 0 mX12_span 63 [some (.ref (79)), some (.int (x1)), some (.int (x2)), some (.int (x3)), some (.int (x4)), some (.int (v18)), some (.int (v18)), some (.int (x7 + 1)), some (.int (x8 + 1)), none] [] u23 Q X)) X)) ∧ (¬ (x5 = (-1)) → ((x5 ≤ v18) → ((v18 ≤ x6) → s_EvI d 0 mX12_lateAll u19 [.ref (79)] (fun v24 u25 => ((¬ v24 = 0) → s_Ex (d + 1) 0 mX12_span 63 [some (.ref (79)), some (.int (x1)), some (.int (x2)), some (.int (x3)), some (.int (x4)), some (.int (x5)), some (.int (x6)), some (.int (x7 + 0)), some (.int (x8 + 1)), none] [] u25 Q X) ∧ (¬ (¬ v24 = 0) → s_Ex (d + 1) 0 mX12_span 63 [some (.ref (79)), some (.int (x1)), some (.int (x2)), some (.int (x3)), some (.int (x4)), some (.int (x5)), some (.int (x6)), some (.int (x7 + 1)), some (.int (x8 + 1)), none] [] u25 Q X)) X) ∧ (¬ (v18 ≤ x6) → s_EvI d 0 mX12_lateAll u19 [.ref (79)] (fun v26 u27 => ((¬ v26 = 0) → s_Ex (d + 1) 0 mX12_span 63 [some (.ref (79)), some (.int (x1)), some (.int (x2)), some (.int (x3)), some (.int (x4)), some (.int (x5)), some (.int (v18)), some (.int (x7 + 0)), some (.int (x8 + 1)), none] [] u27 Q X) ∧ (¬ (¬ v26 = 0) → s_Ex (d + 1) 0 mX12_span 63 [some (.ref (79)), some (.int (x1)), some (.int (x2)), some (.int (x3)), some (.int (x4)), some (.int (x5)), some (.int (v18)), some (.int (x7 + 1)), some (.int (x8 + 1)), none] [] u27 Q X)) X)) ∧ (¬ (x5 ≤ v18) → ((v18 ≤ x6) → s_EvI d 0 mX12_lateAll u19 [.ref (79)] (fun v28 u29 => ((¬ v28 = 0) → s_Ex (d + 1) 0 mX12_span 63 [some (.ref (79)), some (.int (x1)), some (.int (x2)), some (.int (x3)), some (.int (x4)), some (.int (v18)), some (.int (x6)), some (.int (x7 + 0)), some (.int (x8 + 1)), none] [] u29 Q X) ∧ (¬ (¬ v28 = 0) → s_Ex (d + 1) 0 mX12_span 63 [some (.ref (79)), some (.int (x1)), some (.int (x2)), some (.int (x3)), some (.int (x4)), some (.int (v18)), some (.int (x6)), some (.int (x7 + 1)), some (.int (x8 + 1)), none] [] u29 Q X)) X) ∧ (¬ (v18 ≤ x6) → s_EvI d 0 mX12_lateAll u19 [.ref (79)] (fun v30 u31 => ((¬ v30 = 0) → s_Ex (d + 1) 0 mX12_span 63 [some (.ref (79)), some (.int (x1)), some (.int (x2)), some (.int (x3)), some (.int (x4)), some (.int (v18)), some (.int (v18)), some (.int (x7 + 0)), some (.int (x8 + 1)), none] [] u31 Q X) ∧ (¬ (¬ v30 = 0) → s_Ex (d + 1) 0 mX12_span 63 [some (.ref (79)), some (.int (x1)), some (.int (x2)), some (.int (x3)), some (.int (x4)), some (.int (v18)), some (.int (v18)), some (.int (x7 + 1)), some (.int (x8 + 1)), none] [] u31 Q X)) X)))) X) X)
theorem xX12_span_0 {d : Nat} {x1 : Int32} {x2 : Int32} {x3 : Int32} {x4 : Int32} {w : q_Sm} {Q : s_Po} {X : s_Xo} (h : vX12_span_0 d x1 x2 x3 x4 w Q X) : s_Ex (d + 1) 0 mX12_span 0 [some (.ref (79)), some (.int (x1)), some (.int (x2)), some (.int (x3)), some (.int (x4)), none, none, none, none, none] [] w Q X := by
  unfold vX12_span_0 at h
  replace h := h _ rfl
  refine s_blk [(.aload_n 0, 1, 0, 0), (.iconst 0, 1, 0, 0), (.putfield 3, 3, 12, 0), (.aload_n 0, 1, 0, 0), (.iload_n 2, 1, 0, 0), (.iconst 1, 1, 0, 0), (.bipush 20, 2, 0, 0)] 10 [some (.ref (79)), some (.int (x1)), some (.int (x2)), some (.int (x3)), some (.int (x4)), none, none, none, none, none] [.int (20), .int (1), .int (x2), .ref (79)] (q_wI w 79 0 0) [q_id 116 12 79] (by decide +kernel) (by refine qt_aload_n (r := 79) rfl ?_; refine qt_iconst qc_0 ?_; refine qt_putI rfl ?_; refine qt_aload_n (r := 79) rfl ?_; refine qt_iload_n (x := x2) rfl ?_; refine qt_iconst qc_1 ?_; refine qt_bipush qb_20 ?_; exact qt_z rfl rfl rfl rfl rfl) (q_id_of rfl) ?_
  refine s_callS (a := 0) (a' := 0) (As := [.int (x2), .int (1), .int (20)]) (st := [.ref (79)]) kX12_within l_12_410 (by decide +kernel) rfl (Nat.le_of_ble_eq_true rfl) (s_mono h (s_I_of (fun v2 u3 h => ?_)) (fun _ _ h9 => h9))
  show s_Ex (d + 1) 0 mX12_span 13 [some (.ref (79)), some (.int (x1)), some (.int (x2)), some (.int (x3)), some (.int (x4)), none, none, none, none, none] [.int (v2), .ref (79)] u3 Q X
  refine s_if (cd := .eq) (off := 27) 40 (by decide +kernel) (by decide) (fun hc => ?_) (fun hc => ?_)
  · replace h := h.1 hc
    refine s_blk [(.iconst 0, 1, 0, 0), (.iconst 1, 1, 0, 0), (.iconst 1, 1, 0, 0)] 43 [some (.ref (79)), some (.int (x1)), some (.int (x2)), some (.int (x3)), some (.int (x4)), none, none, none, none, none] [.int (1), .int (1), .int (0), .ref (79)] u3 [] (by decide +kernel) (by refine qt_iconst qc_0 ?_; refine qt_iconst qc_1 ?_; refine qt_iconst qc_1 ?_; exact qt_z rfl rfl rfl rfl rfl) trivial ?_
    refine s_callV (a := 0) (a' := 0) (As := [.int (0), .int (1), .int (1)]) (id := 79) (st := []) kX12_may l_12_270 (by decide +kernel) (q_id_of rfl) rfl (Nat.le_of_ble_eq_true rfl) (s_mono h (s_I_of (fun v4 u5 h => ?_)) (fun _ _ h9 => h9))
    show s_Ex (d + 1) 0 mX12_span 46 [some (.ref (79)), some (.int (x1)), some (.int (x2)), some (.int (x3)), some (.int (x4)), none, none, none, none, none] [.int (v4)] u5 Q X
    refine s_if (cd := .ne) (off := 5) 51 (by decide +kernel) (by decide) (fun hc => ?_) (fun hc => ?_)
    · replace h := h.1 hc
      refine s_blk [(.iconst (-1), 1, 0, 0), (.istore 5, 2, 0, 0), (.iconst 0, 1, 0, 0), (.istore 6, 2, 0, 0), (.iconst 0, 1, 0, 0), (.istore 7, 2, 0, 0), (.iconst 0, 1, 0, 0), (.istore 8, 2, 0, 0)] 63 [some (.ref (79)), some (.int (x1)), some (.int (x2)), some (.int (x3)), some (.int (x4)), some (.int (-1)), some (.int (0)), some (.int (0)), some (.int (0)), none] [] u5 [] (by decide +kernel) (by refine qt_iconst qc_m1 ?_; refine qt_istore (L' := [some (.ref (79)), some (.int (x1)), some (.int (x2)), some (.int (x3)), some (.int (x4)), some (.int (-1)), none, none, none, none]) rfl ?_; refine qt_iconst qc_0 ?_; refine qt_istore (L' := [some (.ref (79)), some (.int (x1)), some (.int (x2)), some (.int (x3)), some (.int (x4)), some (.int (-1)), some (.int (0)), none, none, none]) rfl ?_; refine qt_iconst qc_0 ?_; refine qt_istore (L' := [some (.ref (79)), some (.int (x1)), some (.int (x2)), some (.int (x3)), some (.int (x4)), some (.int (-1)), some (.int (0)), some (.int (0)), none, none]) rfl ?_; refine qt_iconst qc_0 ?_; refine qt_istore (L' := [some (.ref (79)), some (.int (x1)), some (.int (x2)), some (.int (x3)), some (.int (x4)), some (.int (-1)), some (.int (0)), some (.int (0)), some (.int (0)), none]) rfl ?_; exact qt_z rfl rfl rfl rfl rfl) trivial ?_
      exact h
    · replace h := h.2 hc
      refine s_blk [(.iconst 0, 1, 0, 0)] 50 [some (.ref (79)), some (.int (x1)), some (.int (x2)), some (.int (x3)), some (.int (x4)), none, none, none, none, none] [.int (0)] u5 [] (by decide +kernel) (by refine qt_iconst qc_0 ?_; exact qt_z rfl rfl rfl rfl rfl) trivial ?_
      exact s_retI .int (by decide +kernel) rfl rfl h
  · replace h := h.2 hc
    refine s_blk [(.iload_n 3, 1, 0, 0), (.iconst 1, 1, 0, 0), (.bipush 60, 2, 0, 0)] 20 [some (.ref (79)), some (.int (x1)), some (.int (x2)), some (.int (x3)), some (.int (x4)), none, none, none, none, none] [.int (60), .int (1), .int (x3), .ref (79)] u3 [] (by decide +kernel) (by refine qt_iload_n (x := x3) rfl ?_; refine qt_iconst qc_1 ?_; refine qt_bipush qb_60 ?_; exact qt_z rfl rfl rfl rfl rfl) trivial ?_
    refine s_callS (a := 0) (a' := 0) (As := [.int (x3), .int (1), .int (60)]) (st := [.ref (79)]) kX12_within l_12_410 (by decide +kernel) rfl (Nat.le_of_ble_eq_true rfl) (s_mono h (s_I_of (fun v6 u7 h => ?_)) (fun _ _ h9 => h9))
    show s_Ex (d + 1) 0 mX12_span 23 [some (.ref (79)), some (.int (x1)), some (.int (x2)), some (.int (x3)), some (.int (x4)), none, none, none, none, none] [.int (v6), .ref (79)] u7 Q X
    refine s_if (cd := .eq) (off := 17) 40 (by decide +kernel) (by decide) (fun hc => ?_) (fun hc => ?_)
    · replace h := h.1 hc
      refine s_blk [(.iconst 0, 1, 0, 0), (.iconst 1, 1, 0, 0), (.iconst 1, 1, 0, 0)] 43 [some (.ref (79)), some (.int (x1)), some (.int (x2)), some (.int (x3)), some (.int (x4)), none, none, none, none, none] [.int (1), .int (1), .int (0), .ref (79)] u7 [] (by decide +kernel) (by refine qt_iconst qc_0 ?_; refine qt_iconst qc_1 ?_; refine qt_iconst qc_1 ?_; exact qt_z rfl rfl rfl rfl rfl) trivial ?_
      refine s_callV (a := 0) (a' := 0) (As := [.int (0), .int (1), .int (1)]) (id := 79) (st := []) kX12_may l_12_270 (by decide +kernel) (q_id_of rfl) rfl (Nat.le_of_ble_eq_true rfl) (s_mono h (s_I_of (fun v8 u9 h => ?_)) (fun _ _ h9 => h9))
      show s_Ex (d + 1) 0 mX12_span 46 [some (.ref (79)), some (.int (x1)), some (.int (x2)), some (.int (x3)), some (.int (x4)), none, none, none, none, none] [.int (v8)] u9 Q X
      refine s_if (cd := .ne) (off := 5) 51 (by decide +kernel) (by decide) (fun hc => ?_) (fun hc => ?_)
      · replace h := h.1 hc
        refine s_blk [(.iconst (-1), 1, 0, 0), (.istore 5, 2, 0, 0), (.iconst 0, 1, 0, 0), (.istore 6, 2, 0, 0), (.iconst 0, 1, 0, 0), (.istore 7, 2, 0, 0), (.iconst 0, 1, 0, 0), (.istore 8, 2, 0, 0)] 63 [some (.ref (79)), some (.int (x1)), some (.int (x2)), some (.int (x3)), some (.int (x4)), some (.int (-1)), some (.int (0)), some (.int (0)), some (.int (0)), none] [] u9 [] (by decide +kernel) (by refine qt_iconst qc_m1 ?_; refine qt_istore (L' := [some (.ref (79)), some (.int (x1)), some (.int (x2)), some (.int (x3)), some (.int (x4)), some (.int (-1)), none, none, none, none]) rfl ?_; refine qt_iconst qc_0 ?_; refine qt_istore (L' := [some (.ref (79)), some (.int (x1)), some (.int (x2)), some (.int (x3)), some (.int (x4)), some (.int (-1)), some (.int (0)), none, none, none]) rfl ?_; refine qt_iconst qc_0 ?_; refine qt_istore (L' := [some (.ref (79)), some (.int (x1)), some (.int (x2)), some (.int (x3)), some (.int (x4)), some (.int (-1)), some (.int (0)), some (.int (0)), none, none]) rfl ?_; refine qt_iconst qc_0 ?_; refine qt_istore (L' := [some (.ref (79)), some (.int (x1)), some (.int (x2)), some (.int (x3)), some (.int (x4)), some (.int (-1)), some (.int (0)), some (.int (0)), some (.int (0)), none]) rfl ?_; exact qt_z rfl rfl rfl rfl rfl) trivial ?_
        exact h
      · replace h := h.2 hc
        refine s_blk [(.iconst 0, 1, 0, 0)] 50 [some (.ref (79)), some (.int (x1)), some (.int (x2)), some (.int (x3)), some (.int (x4)), none, none, none, none, none] [.int (0)] u9 [] (by decide +kernel) (by refine qt_iconst qc_0 ?_; exact qt_z rfl rfl rfl rfl rfl) trivial ?_
        exact s_retI .int (by decide +kernel) rfl rfl h
    · replace h := h.2 hc
      refine s_blk [(.iload 4, 2, 0, 0), (.iconst 0, 1, 0, 0), (.iconst 2, 1, 0, 0)] 30 [some (.ref (79)), some (.int (x1)), some (.int (x2)), some (.int (x3)), some (.int (x4)), none, none, none, none, none] [.int (2), .int (0), .int (x4), .ref (79)] u7 [] (by decide +kernel) (by refine qt_iload (x := x4) rfl ?_; refine qt_iconst qc_0 ?_; refine qt_iconst qc_2 ?_; exact qt_z rfl rfl rfl rfl rfl) trivial ?_
      refine s_callS (a := 0) (a' := 0) (As := [.int (x4), .int (0), .int (2)]) (st := [.ref (79)]) kX12_within l_12_410 (by decide +kernel) rfl (Nat.le_of_ble_eq_true rfl) (s_mono h (s_I_of (fun v10 u11 h => ?_)) (fun _ _ h9 => h9))
      show s_Ex (d + 1) 0 mX12_span 33 [some (.ref (79)), some (.int (x1)), some (.int (x2)), some (.int (x3)), some (.int (x4)), none, none, none, none, none] [.int (v10), .ref (79)] u11 Q X
      refine s_if (cd := .eq) (off := 7) 40 (by decide +kernel) (by decide) (fun hc => ?_) (fun hc => ?_)
      · replace h := h.1 hc
        refine s_blk [(.iconst 0, 1, 0, 0), (.iconst 1, 1, 0, 0), (.iconst 1, 1, 0, 0)] 43 [some (.ref (79)), some (.int (x1)), some (.int (x2)), some (.int (x3)), some (.int (x4)), none, none, none, none, none] [.int (1), .int (1), .int (0), .ref (79)] u11 [] (by decide +kernel) (by refine qt_iconst qc_0 ?_; refine qt_iconst qc_1 ?_; refine qt_iconst qc_1 ?_; exact qt_z rfl rfl rfl rfl rfl) trivial ?_
        refine s_callV (a := 0) (a' := 0) (As := [.int (0), .int (1), .int (1)]) (id := 79) (st := []) kX12_may l_12_270 (by decide +kernel) (q_id_of rfl) rfl (Nat.le_of_ble_eq_true rfl) (s_mono h (s_I_of (fun v12 u13 h => ?_)) (fun _ _ h9 => h9))
        show s_Ex (d + 1) 0 mX12_span 46 [some (.ref (79)), some (.int (x1)), some (.int (x2)), some (.int (x3)), some (.int (x4)), none, none, none, none, none] [.int (v12)] u13 Q X
        refine s_if (cd := .ne) (off := 5) 51 (by decide +kernel) (by decide) (fun hc => ?_) (fun hc => ?_)
        · replace h := h.1 hc
          refine s_blk [(.iconst (-1), 1, 0, 0), (.istore 5, 2, 0, 0), (.iconst 0, 1, 0, 0), (.istore 6, 2, 0, 0), (.iconst 0, 1, 0, 0), (.istore 7, 2, 0, 0), (.iconst 0, 1, 0, 0), (.istore 8, 2, 0, 0)] 63 [some (.ref (79)), some (.int (x1)), some (.int (x2)), some (.int (x3)), some (.int (x4)), some (.int (-1)), some (.int (0)), some (.int (0)), some (.int (0)), none] [] u13 [] (by decide +kernel) (by refine qt_iconst qc_m1 ?_; refine qt_istore (L' := [some (.ref (79)), some (.int (x1)), some (.int (x2)), some (.int (x3)), some (.int (x4)), some (.int (-1)), none, none, none, none]) rfl ?_; refine qt_iconst qc_0 ?_; refine qt_istore (L' := [some (.ref (79)), some (.int (x1)), some (.int (x2)), some (.int (x3)), some (.int (x4)), some (.int (-1)), some (.int (0)), none, none, none]) rfl ?_; refine qt_iconst qc_0 ?_; refine qt_istore (L' := [some (.ref (79)), some (.int (x1)), some (.int (x2)), some (.int (x3)), some (.int (x4)), some (.int (-1)), some (.int (0)), some (.int (0)), none, none]) rfl ?_; refine qt_iconst qc_0 ?_; refine qt_istore (L' := [some (.ref (79)), some (.int (x1)), some (.int (x2)), some (.int (x3)), some (.int (x4)), some (.int (-1)), some (.int (0)), some (.int (0)), some (.int (0)), none]) rfl ?_; exact qt_z rfl rfl rfl rfl rfl) trivial ?_
          exact h
        · replace h := h.2 hc
          refine s_blk [(.iconst 0, 1, 0, 0)] 50 [some (.ref (79)), some (.int (x1)), some (.int (x2)), some (.int (x3)), some (.int (x4)), none, none, none, none, none] [.int (0)] u13 [] (by decide +kernel) (by refine qt_iconst qc_0 ?_; exact qt_z rfl rfl rfl rfl rfl) trivial ?_
          exact s_retI .int (by decide +kernel) rfl rfl h
      · replace h := h.2 hc
        refine s_blk [(.iconst 1, 1, 0, 0), (.goto 4, 3, 41, 0), (.iconst 1, 1, 0, 0), (.iconst 1, 1, 0, 0)] 43 [some (.ref (79)), some (.int (x1)), some (.int (x2)), some (.int (x3)), some (.int (x4)), none, none, none, none, none] [.int (1), .int (1), .int (1), .ref (79)] u11 [] (by decide +kernel) (by refine qt_iconst qc_1 ?_; refine qt_goto ?_; refine qt_iconst qc_1 ?_; refine qt_iconst qc_1 ?_; exact qt_z rfl rfl rfl rfl rfl) trivial ?_
        refine s_callV (a := 0) (a' := 0) (As := [.int (1), .int (1), .int (1)]) (id := 79) (st := []) kX12_may l_12_270 (by decide +kernel) (q_id_of rfl) rfl (Nat.le_of_ble_eq_true rfl) (s_mono h (s_I_of (fun v14 u15 h => ?_)) (fun _ _ h9 => h9))
        show s_Ex (d + 1) 0 mX12_span 46 [some (.ref (79)), some (.int (x1)), some (.int (x2)), some (.int (x3)), some (.int (x4)), none, none, none, none, none] [.int (v14)] u15 Q X
        refine s_if (cd := .ne) (off := 5) 51 (by decide +kernel) (by decide) (fun hc => ?_) (fun hc => ?_)
        · replace h := h.1 hc
          refine s_blk [(.iconst (-1), 1, 0, 0), (.istore 5, 2, 0, 0), (.iconst 0, 1, 0, 0), (.istore 6, 2, 0, 0), (.iconst 0, 1, 0, 0), (.istore 7, 2, 0, 0), (.iconst 0, 1, 0, 0), (.istore 8, 2, 0, 0)] 63 [some (.ref (79)), some (.int (x1)), some (.int (x2)), some (.int (x3)), some (.int (x4)), some (.int (-1)), some (.int (0)), some (.int (0)), some (.int (0)), none] [] u15 [] (by decide +kernel) (by refine qt_iconst qc_m1 ?_; refine qt_istore (L' := [some (.ref (79)), some (.int (x1)), some (.int (x2)), some (.int (x3)), some (.int (x4)), some (.int (-1)), none, none, none, none]) rfl ?_; refine qt_iconst qc_0 ?_; refine qt_istore (L' := [some (.ref (79)), some (.int (x1)), some (.int (x2)), some (.int (x3)), some (.int (x4)), some (.int (-1)), some (.int (0)), none, none, none]) rfl ?_; refine qt_iconst qc_0 ?_; refine qt_istore (L' := [some (.ref (79)), some (.int (x1)), some (.int (x2)), some (.int (x3)), some (.int (x4)), some (.int (-1)), some (.int (0)), some (.int (0)), none, none]) rfl ?_; refine qt_iconst qc_0 ?_; refine qt_istore (L' := [some (.ref (79)), some (.int (x1)), some (.int (x2)), some (.int (x3)), some (.int (x4)), some (.int (-1)), some (.int (0)), some (.int (0)), some (.int (0)), none]) rfl ?_; exact qt_z rfl rfl rfl rfl rfl) trivial ?_
          exact h
        · replace h := h.2 hc
          refine s_blk [(.iconst 0, 1, 0, 0)] 50 [some (.ref (79)), some (.int (x1)), some (.int (x2)), some (.int (x3)), some (.int (x4)), none, none, none, none, none] [.int (0)] u15 [] (by decide +kernel) (by refine qt_iconst qc_0 ?_; exact qt_z rfl rfl rfl rfl rfl) trivial ?_
          exact s_retI .int (by decide +kernel) rfl rfl h
theorem xX12_span_63 {d : Nat} {x1 : Int32} {x2 : Int32} {x3 : Int32} {x4 : Int32} {x5 : Int32} {x6 : Int32} {x7 : Int32} {x8 : Int32} {w : q_Sm} {Q : s_Po} {X : s_Xo} (h : vX12_span_63 d x1 x2 x3 x4 x5 x6 x7 x8 w Q X) : s_Ex (d + 1) 0 mX12_span 63 [some (.ref (79)), some (.int (x1)), some (.int (x2)), some (.int (x3)), some (.int (x4)), some (.int (x5)), some (.int (x6)), some (.int (x7)), some (.int (x8)), none] [] w Q X := by
  unfold vX12_span_63 at h
  refine s_blk [(.iload 8, 2, 0, 0), (.iload_n 2, 1, 0, 0)] 66 [some (.ref (79)), some (.int (x1)), some (.int (x2)), some (.int (x3)), some (.int (x4)), some (.int (x5)), some (.int (x6)), some (.int (x7)), some (.int (x8)), none] [.int (x2), .int (x8)] w [] (by decide +kernel) (by refine qt_iload (x := x8) rfl ?_; refine qt_iload_n (x := x2) rfl ?_; exact qt_z rfl rfl rfl rfl rfl) trivial ?_
  refine s_icmp (cd := .ge) (off := 79) 145 (by decide +kernel) (by decide) (fun hc => ?_) (fun hc => ?_)
  · replace h := h.1 hc
    refine s_blk [(.iload 4, 2, 0, 0)] 147 [some (.ref (79)), some (.int (x1)), some (.int (x2)), some (.int (x3)), some (.int (x4)), some (.int (x5)), some (.int (x6)), some (.int (x7)), some (.int (x8)), none] [.int (x4)] w [] (by decide +kernel) (by refine qt_iload (x := x4) rfl ?_; exact qt_z rfl rfl rfl rfl rfl) trivial ?_
    refine s_if (cd := .ne) (off := 8) 155 (by decide +kernel) (by decide) (fun hc => ?_) (fun hc => ?_)
    · replace h := h.1 hc
      refine s_blk [(.iload 4, 2, 0, 0), (.iconst 1, 1, 0, 0)] 158 [some (.ref (79)), some (.int (x1)), some (.int (x2)), some (.int (x3)), some (.int (x4)), some (.int (x5)), some (.int (x6)), some (.int (x7)), some (.int (x8)), none] [.int (1), .int (x4)] w [] (by decide +kernel) (by refine qt_iload (x := x4) rfl ?_; refine qt_iconst qc_1 ?_; exact qt_z rfl rfl rfl rfl rfl) trivial ?_
      refine s_icmp (cd := .ne) (off := 8) 166 (by decide +kernel) (by decide) (fun hc => ?_) (fun hc => ?_)
      · replace h := h.1 hc
        refine s_blk [(.iload 7, 2, 0, 0)] 168 [some (.ref (79)), some (.int (x1)), some (.int (x2)), some (.int (x3)), some (.int (x4)), some (.int (x5)), some (.int (x6)), some (.int (x7)), some (.int (x8)), none] [.int (x7)] w [] (by decide +kernel) (by refine qt_iload (x := x7) rfl ?_; exact qt_z rfl rfl rfl rfl rfl) trivial ?_
        exact s_retI .int (by decide +kernel) rfl rfl h
      · replace h := h.2 hc
        refine s_blk [(.iload 6, 2, 0, 0), (.goto 5, 3, 168, 0)] 168 [some (.ref (79)), some (.int (x1)), some (.int (x2)), some (.int (x3)), some (.int (x4)), some (.int (x5)), some (.int (x6)), some (.int (x7)), some (.int (x8)), none] [.int (x6)] w [] (by decide +kernel) (by refine qt_iload (x := x6) rfl ?_; refine qt_goto ?_; exact qt_z rfl rfl rfl rfl rfl) trivial ?_
        exact s_retI .int (by decide +kernel) rfl rfl h
    · replace h := h.2 hc
      refine s_blk [(.iload 5, 2, 0, 0), (.goto 16, 3, 168, 0)] 168 [some (.ref (79)), some (.int (x1)), some (.int (x2)), some (.int (x3)), some (.int (x4)), some (.int (x5)), some (.int (x6)), some (.int (x7)), some (.int (x8)), none] [.int (x5)] w [] (by decide +kernel) (by refine qt_iload (x := x5) rfl ?_; refine qt_goto ?_; exact qt_z rfl rfl rfl rfl rfl) trivial ?_
      exact s_retI .int (by decide +kernel) rfl rfl h
  · replace h := h.2 hc
    refine s_blk [(.aload_n 0, 1, 0, 0), (.iload_n 1, 1, 0, 0), (.iload 8, 2, 0, 0), (.iadd, 1, 0, 0), (.iload_n 3, 1, 0, 0)] 75 [some (.ref (79)), some (.int (x1)), some (.int (x2)), some (.int (x3)), some (.int (x4)), some (.int (x5)), some (.int (x6)), some (.int (x7)), some (.int (x8)), none] [.int (x3), .int (x1 + x8), .ref (79)] w [] (by decide +kernel) (by refine qt_aload_n (r := 79) rfl ?_; refine qt_iload_n (x := x1) rfl ?_; refine qt_iload (x := x8) rfl ?_; refine qt_iadd ?_; refine qt_iload_n (x := x3) rfl ?_; exact qt_z rfl rfl rfl rfl rfl) trivial ?_
    refine s_callV (a := 0) (a' := 0) (As := [.int (x1 + x8), .int (x3)]) (id := 79) (st := []) kX12_goesOn l_12_517 (by decide +kernel) (q_id_of rfl) rfl (Nat.le_of_ble_eq_true rfl) (s_mono h (s_V_of (fun u17 h => ?_)) (fun _ _ h9 => h9))
    show s_Ex (d + 1) 0 mX12_span 78 [some (.ref (79)), some (.int (x1)), some (.int (x2)), some (.int (x3)), some (.int (x4)), some (.int (x5)), some (.int (x6)), some (.int (x7)), some (.int (x8)), none] [] u17 Q X
    refine s_blk [(.aload_n 0, 1, 0, 0)] 79 [some (.ref (79)), some (.int (x1)), some (.int (x2)), some (.int (x3)), some (.int (x4)), some (.int (x5)), some (.int (x6)), some (.int (x7)), some (.int (x8)), none] [.ref (79)] u17 [] (by decide +kernel) (by refine qt_aload_n (r := 79) rfl ?_; exact qt_z rfl rfl rfl rfl rfl) trivial ?_
    refine s_callV (a := 0) (a' := 0) (As := []) (id := 79) (st := []) kX12_owedAll l_12_413 (by decide +kernel) (q_id_of rfl) rfl (Nat.le_of_ble_eq_true rfl) (s_mono h (s_I_of (fun v18 u19 h => ?_)) (fun _ _ h9 => h9))
    show s_Ex (d + 1) 0 mX12_span 82 [some (.ref (79)), some (.int (x1)), some (.int (x2)), some (.int (x3)), some (.int (x4)), some (.int (x5)), some (.int (x6)), some (.int (x7)), some (.int (x8)), none] [.int (v18)] u19 Q X
    refine s_blk [(.istore 9, 2, 0, 0), (.iload 5, 2, 0, 0), (.iconst (-1), 1, 0, 0)] 87 [some (.ref (79)), some (.int (x1)), some (.int (x2)), some (.int (x3)), some (.int (x4)), some (.int (x5)), some (.int (x6)), some (.int (x7)), some (.int (x8)), some (.int (v18))] [.int (-1), .int (x5)] u19 [] (by decide +kernel) (by refine qt_istore (L' := [some (.ref (79)), some (.int (x1)), some (.int (x2)), some (.int (x3)), some (.int (x4)), some (.int (x5)), some (.int (x6)), some (.int (x7)), some (.int (x8)), some (.int (v18))]) rfl ?_; refine qt_iload (x := x5) rfl ?_; refine qt_iconst qc_m1 ?_; exact qt_z rfl rfl rfl rfl rfl) trivial ?_
    refine s_icmp (cd := .eq) (off := 10) 97 (by decide +kernel) (by decide) (fun hc => ?_) (fun hc => ?_)
    · replace h := h.1 hc
      refine s_blk [(.iload 9, 2, 0, 0), (.goto 5, 3, 104, 0), (.istore 5, 2, 0, 0), (.iload 9, 2, 0, 0), (.iload 6, 2, 0, 0)] 110 [some (.ref (79)), some (.int (x1)), some (.int (x2)), some (.int (x3)), some (.int (x4)), some (.int (v18)), some (.int (x6)), some (.int (x7)), some (.int (x8)), some (.int (v18))] [.int (x6), .int (v18)] u19 [] (by decide +kernel) (by refine qt_iload (x := v18) rfl ?_; refine qt_goto ?_; refine qt_istore (L' := [some (.ref (79)), some (.int (x1)), some (.int (x2)), some (.int (x3)), some (.int (x4)), some (.int (v18)), some (.int (x6)), some (.int (x7)), some (.int (x8)), some (.int (v18))]) rfl ?_; refine qt_iload (x := v18) rfl ?_; refine qt_iload (x := x6) rfl ?_; exact qt_z rfl rfl rfl rfl rfl) trivial ?_
      refine s_icmp (cd := .le) (off := 8) 118 (by decide +kernel) (by decide) (fun hc => ?_) (fun hc => ?_)
      · replace h := h.1 hc
        refine s_blk [(.iload 6, 2, 0, 0), (.istore 6, 2, 0, 0), (.iload 7, 2, 0, 0), (.aload_n 0, 1, 0, 0)] 125 [some (.ref (79)), some (.int (x1)), some (.int (x2)), some (.int (x3)), some (.int (x4)), some (.int (v18)), some (.int (x6)), some (.int (x7)), some (.int (x8)), some (.int (v18))] [.ref (79), .int (x7)] u19 [] (by decide +kernel) (by refine qt_iload (x := x6) rfl ?_; refine qt_istore (L' := [some (.ref (79)), some (.int (x1)), some (.int (x2)), some (.int (x3)), some (.int (x4)), some (.int (v18)), some (.int (x6)), some (.int (x7)), some (.int (x8)), some (.int (v18))]) rfl ?_; refine qt_iload (x := x7) rfl ?_; refine qt_aload_n (r := 79) rfl ?_; exact qt_z rfl rfl rfl rfl rfl) trivial ?_
        refine s_callV (a := 0) (a' := 0) (As := []) (id := 79) (st := [.int (x7)]) kX12_lateAll l_12_416 (by decide +kernel) (q_id_of rfl) rfl (Nat.le_of_ble_eq_true rfl) (s_mono h (s_I_of (fun v20 u21 h => ?_)) (fun _ _ h9 => h9))
        show s_Ex (d + 1) 0 mX12_span 128 [some (.ref (79)), some (.int (x1)), some (.int (x2)), some (.int (x3)), some (.int (x4)), some (.int (v18)), some (.int (x6)), some (.int (x7)), some (.int (x8)), some (.int (v18))] [.int (v20), .int (x7)] u21 Q X
        refine s_if (cd := .ne) (off := 7) 135 (by decide +kernel) (by decide) (fun hc => ?_) (fun hc => ?_)
        · replace h := h.1 hc
          refine s_blk [(.iconst 0, 1, 0, 0), (.iadd, 1, 0, 0), (.istore 7, 2, 0, 0), (.iinc 8 1, 3, 0, 0), (.goto (-79), 3, 63, 0), (.nop, 0, 9, 0)] 63 [some (.ref (79)), some (.int (x1)), some (.int (x2)), some (.int (x3)), some (.int (x4)), some (.int (v18)), some (.int (x6)), some (.int (x7 + 0)), some (.int (x8 + 1)), none] [] u21 [] (by decide +kernel) (by refine qt_iconst qc_0 ?_; refine qt_iadd ?_; refine qt_istore (L' := [some (.ref (79)), some (.int (x1)), some (.int (x2)), some (.int (x3)), some (.int (x4)), some (.int (v18)), some (.int (x6)), some (.int (x7 + 0)), some (.int (x8)), some (.int (v18))]) rfl ?_; refine qt_iinc (x := x8) (L' := [some (.ref (79)), some (.int (x1)), some (.int (x2)), some (.int (x3)), some (.int (x4)), some (.int (v18)), some (.int (x6)), some (.int (x7 + 0)), some (.int (x8 + 1)), some (.int (v18))]) rfl qc_1 rfl ?_; refine qt_goto ?_; refine qt_nop (L' := [some (.ref (79)), some (.int (x1)), some (.int (x2)), some (.int (x3)), some (.int (x4)), some (.int (v18)), some (.int (x6)), some (.int (x7 + 0)), some (.int (x8 + 1)), none]) rfl ?_; exact qt_z rfl rfl rfl rfl rfl) trivial ?_
          exact h
        · replace h := h.2 hc
          refine s_blk [(.iconst 1, 1, 0, 0), (.goto 4, 3, 136, 0), (.iadd, 1, 0, 0), (.istore 7, 2, 0, 0), (.iinc 8 1, 3, 0, 0), (.goto (-79), 3, 63, 0), (.nop, 0, 9, 0)] 63 [some (.ref (79)), some (.int (x1)), some (.int (x2)), some (.int (x3)), some (.int (x4)), some (.int (v18)), some (.int (x6)), some (.int (x7 + 1)), some (.int (x8 + 1)), none] [] u21 [] (by decide +kernel) (by refine qt_iconst qc_1 ?_; refine qt_goto ?_; refine qt_iadd ?_; refine qt_istore (L' := [some (.ref (79)), some (.int (x1)), some (.int (x2)), some (.int (x3)), some (.int (x4)), some (.int (v18)), some (.int (x6)), some (.int (x7 + 1)), some (.int (x8)), some (.int (v18))]) rfl ?_; refine qt_iinc (x := x8) (L' := [some (.ref (79)), some (.int (x1)), some (.int (x2)), some (.int (x3)), some (.int (x4)), some (.int (v18)), some (.int (x6)), some (.int (x7 + 1)), some (.int (x8 + 1)), some (.int (v18))]) rfl qc_1 rfl ?_; refine qt_goto ?_; refine qt_nop (L' := [some (.ref (79)), some (.int (x1)), some (.int (x2)), some (.int (x3)), some (.int (x4)), some (.int (v18)), some (.int (x6)), some (.int (x7 + 1)), some (.int (x8 + 1)), none]) rfl ?_; exact qt_z rfl rfl rfl rfl rfl) trivial ?_
          exact h
      · replace h := h.2 hc
        refine s_blk [(.iload 9, 2, 0, 0), (.goto 5, 3, 120, 0), (.istore 6, 2, 0, 0), (.iload 7, 2, 0, 0), (.aload_n 0, 1, 0, 0)] 125 [some (.ref (79)), some (.int (x1)), some (.int (x2)), some (.int (x3)), some (.int (x4)), some (.int (v18)), some (.int (v18)), some (.int (x7)), some (.int (x8)), some (.int (v18))] [.ref (79), .int (x7)] u19 [] (by decide +kernel) (by refine qt_iload (x := v18) rfl ?_; refine qt_goto ?_; refine qt_istore (L' := [some (.ref (79)), some (.int (x1)), some (.int (x2)), some (.int (x3)), some (.int (x4)), some (.int (v18)), some (.int (v18)), some (.int (x7)), some (.int (x8)), some (.int (v18))]) rfl ?_; refine qt_iload (x := x7) rfl ?_; refine qt_aload_n (r := 79) rfl ?_; exact qt_z rfl rfl rfl rfl rfl) trivial ?_
        refine s_callV (a := 0) (a' := 0) (As := []) (id := 79) (st := [.int (x7)]) kX12_lateAll l_12_416 (by decide +kernel) (q_id_of rfl) rfl (Nat.le_of_ble_eq_true rfl) (s_mono h (s_I_of (fun v22 u23 h => ?_)) (fun _ _ h9 => h9))
        show s_Ex (d + 1) 0 mX12_span 128 [some (.ref (79)), some (.int (x1)), some (.int (x2)), some (.int (x3)), some (.int (x4)), some (.int (v18)), some (.int (v18)), some (.int (x7)), some (.int (x8)), some (.int (v18))] [.int (v22), .int (x7)] u23 Q X
        refine s_if (cd := .ne) (off := 7) 135 (by decide +kernel) (by decide) (fun hc => ?_) (fun hc => ?_)
        · replace h := h.1 hc
          refine s_blk [(.iconst 0, 1, 0, 0), (.iadd, 1, 0, 0), (.istore 7, 2, 0, 0), (.iinc 8 1, 3, 0, 0), (.goto (-79), 3, 63, 0), (.nop, 0, 9, 0)] 63 [some (.ref (79)), some (.int (x1)), some (.int (x2)), some (.int (x3)), some (.int (x4)), some (.int (v18)), some (.int (v18)), some (.int (x7 + 0)), some (.int (x8 + 1)), none] [] u23 [] (by decide +kernel) (by refine qt_iconst qc_0 ?_; refine qt_iadd ?_; refine qt_istore (L' := [some (.ref (79)), some (.int (x1)), some (.int (x2)), some (.int (x3)), some (.int (x4)), some (.int (v18)), some (.int (v18)), some (.int (x7 + 0)), some (.int (x8)), some (.int (v18))]) rfl ?_; refine qt_iinc (x := x8) (L' := [some (.ref (79)), some (.int (x1)), some (.int (x2)), some (.int (x3)), some (.int (x4)), some (.int (v18)), some (.int (v18)), some (.int (x7 + 0)), some (.int (x8 + 1)), some (.int (v18))]) rfl qc_1 rfl ?_; refine qt_goto ?_; refine qt_nop (L' := [some (.ref (79)), some (.int (x1)), some (.int (x2)), some (.int (x3)), some (.int (x4)), some (.int (v18)), some (.int (v18)), some (.int (x7 + 0)), some (.int (x8 + 1)), none]) rfl ?_; exact qt_z rfl rfl rfl rfl rfl) trivial ?_
          exact h
        · replace h := h.2 hc
          refine s_blk [(.iconst 1, 1, 0, 0), (.goto 4, 3, 136, 0), (.iadd, 1, 0, 0), (.istore 7, 2, 0, 0), (.iinc 8 1, 3, 0, 0), (.goto (-79), 3, 63, 0), (.nop, 0, 9, 0)] 63 [some (.ref (79)), some (.int (x1)), some (.int (x2)), some (.int (x3)), some (.int (x4)), some (.int (v18)), some (.int (v18)), some (.int (x7 + 1)), some (.int (x8 + 1)), none] [] u23 [] (by decide +kernel) (by refine qt_iconst qc_1 ?_; refine qt_goto ?_; refine qt_iadd ?_; refine qt_istore (L' := [some (.ref (79)), some (.int (x1)), some (.int (x2)), some (.int (x3)), some (.int (x4)), some (.int (v18)), some (.int (v18)), some (.int (x7 + 1)), some (.int (x8)), some (.int (v18))]) rfl ?_; refine qt_iinc (x := x8) (L' := [some (.ref (79)), some (.int (x1)), some (.int (x2)), some (.int (x3)), some (.int (x4)), some (.int (v18)), some (.int (v18)), some (.int (x7 + 1)), some (.int (x8 + 1)), some (.int (v18))]) rfl qc_1 rfl ?_; refine qt_goto ?_; refine qt_nop (L' := [some (.ref (79)), some (.int (x1)), some (.int (x2)), some (.int (x3)), some (.int (x4)), some (.int (v18)), some (.int (v18)), some (.int (x7 + 1)), some (.int (x8 + 1)), none]) rfl ?_; exact qt_z rfl rfl rfl rfl rfl) trivial ?_
          exact h
    · replace h := h.2 hc
      refine s_blk [(.iload 9, 2, 0, 0), (.iload 5, 2, 0, 0)] 94 [some (.ref (79)), some (.int (x1)), some (.int (x2)), some (.int (x3)), some (.int (x4)), some (.int (x5)), some (.int (x6)), some (.int (x7)), some (.int (x8)), some (.int (v18))] [.int (x5), .int (v18)] u19 [] (by decide +kernel) (by refine qt_iload (x := v18) rfl ?_; refine qt_iload (x := x5) rfl ?_; exact qt_z rfl rfl rfl rfl rfl) trivial ?_
      refine s_icmp (cd := .ge) (off := 8) 102 (by decide +kernel) (by decide) (fun hc => ?_) (fun hc => ?_)
      · replace h := h.1 hc
        refine s_blk [(.iload 5, 2, 0, 0), (.istore 5, 2, 0, 0), (.iload 9, 2, 0, 0), (.iload 6, 2, 0, 0)] 110 [some (.ref (79)), some (.int (x1)), some (.int (x2)), some (.int (x3)), some (.int (x4)), some (.int (x5)), some (.int (x6)), some (.int (x7)), some (.int (x8)), some (.int (v18))] [.int (x6), .int (v18)] u19 [] (by decide +kernel) (by refine qt_iload (x := x5) rfl ?_; refine qt_istore (L' := [some (.ref (79)), some (.int (x1)), some (.int (x2)), some (.int (x3)), some (.int (x4)), some (.int (x5)), some (.int (x6)), some (.int (x7)), some (.int (x8)), some (.int (v18))]) rfl ?_; refine qt_iload (x := v18) rfl ?_; refine qt_iload (x := x6) rfl ?_; exact qt_z rfl rfl rfl rfl rfl) trivial ?_
        refine s_icmp (cd := .le) (off := 8) 118 (by decide +kernel) (by decide) (fun hc => ?_) (fun hc => ?_)
        · replace h := h.1 hc
          refine s_blk [(.iload 6, 2, 0, 0), (.istore 6, 2, 0, 0), (.iload 7, 2, 0, 0), (.aload_n 0, 1, 0, 0)] 125 [some (.ref (79)), some (.int (x1)), some (.int (x2)), some (.int (x3)), some (.int (x4)), some (.int (x5)), some (.int (x6)), some (.int (x7)), some (.int (x8)), some (.int (v18))] [.ref (79), .int (x7)] u19 [] (by decide +kernel) (by refine qt_iload (x := x6) rfl ?_; refine qt_istore (L' := [some (.ref (79)), some (.int (x1)), some (.int (x2)), some (.int (x3)), some (.int (x4)), some (.int (x5)), some (.int (x6)), some (.int (x7)), some (.int (x8)), some (.int (v18))]) rfl ?_; refine qt_iload (x := x7) rfl ?_; refine qt_aload_n (r := 79) rfl ?_; exact qt_z rfl rfl rfl rfl rfl) trivial ?_
          refine s_callV (a := 0) (a' := 0) (As := []) (id := 79) (st := [.int (x7)]) kX12_lateAll l_12_416 (by decide +kernel) (q_id_of rfl) rfl (Nat.le_of_ble_eq_true rfl) (s_mono h (s_I_of (fun v24 u25 h => ?_)) (fun _ _ h9 => h9))
          show s_Ex (d + 1) 0 mX12_span 128 [some (.ref (79)), some (.int (x1)), some (.int (x2)), some (.int (x3)), some (.int (x4)), some (.int (x5)), some (.int (x6)), some (.int (x7)), some (.int (x8)), some (.int (v18))] [.int (v24), .int (x7)] u25 Q X
          refine s_if (cd := .ne) (off := 7) 135 (by decide +kernel) (by decide) (fun hc => ?_) (fun hc => ?_)
          · replace h := h.1 hc
            refine s_blk [(.iconst 0, 1, 0, 0), (.iadd, 1, 0, 0), (.istore 7, 2, 0, 0), (.iinc 8 1, 3, 0, 0), (.goto (-79), 3, 63, 0), (.nop, 0, 9, 0)] 63 [some (.ref (79)), some (.int (x1)), some (.int (x2)), some (.int (x3)), some (.int (x4)), some (.int (x5)), some (.int (x6)), some (.int (x7 + 0)), some (.int (x8 + 1)), none] [] u25 [] (by decide +kernel) (by refine qt_iconst qc_0 ?_; refine qt_iadd ?_; refine qt_istore (L' := [some (.ref (79)), some (.int (x1)), some (.int (x2)), some (.int (x3)), some (.int (x4)), some (.int (x5)), some (.int (x6)), some (.int (x7 + 0)), some (.int (x8)), some (.int (v18))]) rfl ?_; refine qt_iinc (x := x8) (L' := [some (.ref (79)), some (.int (x1)), some (.int (x2)), some (.int (x3)), some (.int (x4)), some (.int (x5)), some (.int (x6)), some (.int (x7 + 0)), some (.int (x8 + 1)), some (.int (v18))]) rfl qc_1 rfl ?_; refine qt_goto ?_; refine qt_nop (L' := [some (.ref (79)), some (.int (x1)), some (.int (x2)), some (.int (x3)), some (.int (x4)), some (.int (x5)), some (.int (x6)), some (.int (x7 + 0)), some (.int (x8 + 1)), none]) rfl ?_; exact qt_z rfl rfl rfl rfl rfl) trivial ?_
            exact h
          · replace h := h.2 hc
            refine s_blk [(.iconst 1, 1, 0, 0), (.goto 4, 3, 136, 0), (.iadd, 1, 0, 0), (.istore 7, 2, 0, 0), (.iinc 8 1, 3, 0, 0), (.goto (-79), 3, 63, 0), (.nop, 0, 9, 0)] 63 [some (.ref (79)), some (.int (x1)), some (.int (x2)), some (.int (x3)), some (.int (x4)), some (.int (x5)), some (.int (x6)), some (.int (x7 + 1)), some (.int (x8 + 1)), none] [] u25 [] (by decide +kernel) (by refine qt_iconst qc_1 ?_; refine qt_goto ?_; refine qt_iadd ?_; refine qt_istore (L' := [some (.ref (79)), some (.int (x1)), some (.int (x2)), some (.int (x3)), some (.int (x4)), some (.int (x5)), some (.int (x6)), some (.int (x7 + 1)), some (.int (x8)), some (.int (v18))]) rfl ?_; refine qt_iinc (x := x8) (L' := [some (.ref (79)), some (.int (x1)), some (.int (x2)), some (.int (x3)), some (.int (x4)), some (.int (x5)), some (.int (x6)), some (.int (x7 + 1)), some (.int (x8 + 1)), some (.int (v18))]) rfl qc_1 rfl ?_; refine qt_goto ?_; refine qt_nop (L' := [some (.ref (79)), some (.int (x1)), some (.int (x2)), some (.int (x3)), some (.int (x4)), some (.int (x5)), some (.int (x6)), some (.int (x7 + 1)), some (.int (x8 + 1)), none]) rfl ?_; exact qt_z rfl rfl rfl rfl rfl) trivial ?_
            exact h
        · replace h := h.2 hc
          refine s_blk [(.iload 9, 2, 0, 0), (.goto 5, 3, 120, 0), (.istore 6, 2, 0, 0), (.iload 7, 2, 0, 0), (.aload_n 0, 1, 0, 0)] 125 [some (.ref (79)), some (.int (x1)), some (.int (x2)), some (.int (x3)), some (.int (x4)), some (.int (x5)), some (.int (v18)), some (.int (x7)), some (.int (x8)), some (.int (v18))] [.ref (79), .int (x7)] u19 [] (by decide +kernel) (by refine qt_iload (x := v18) rfl ?_; refine qt_goto ?_; refine qt_istore (L' := [some (.ref (79)), some (.int (x1)), some (.int (x2)), some (.int (x3)), some (.int (x4)), some (.int (x5)), some (.int (v18)), some (.int (x7)), some (.int (x8)), some (.int (v18))]) rfl ?_; refine qt_iload (x := x7) rfl ?_; refine qt_aload_n (r := 79) rfl ?_; exact qt_z rfl rfl rfl rfl rfl) trivial ?_
          refine s_callV (a := 0) (a' := 0) (As := []) (id := 79) (st := [.int (x7)]) kX12_lateAll l_12_416 (by decide +kernel) (q_id_of rfl) rfl (Nat.le_of_ble_eq_true rfl) (s_mono h (s_I_of (fun v26 u27 h => ?_)) (fun _ _ h9 => h9))
          show s_Ex (d + 1) 0 mX12_span 128 [some (.ref (79)), some (.int (x1)), some (.int (x2)), some (.int (x3)), some (.int (x4)), some (.int (x5)), some (.int (v18)), some (.int (x7)), some (.int (x8)), some (.int (v18))] [.int (v26), .int (x7)] u27 Q X
          refine s_if (cd := .ne) (off := 7) 135 (by decide +kernel) (by decide) (fun hc => ?_) (fun hc => ?_)
          · replace h := h.1 hc
            refine s_blk [(.iconst 0, 1, 0, 0), (.iadd, 1, 0, 0), (.istore 7, 2, 0, 0), (.iinc 8 1, 3, 0, 0), (.goto (-79), 3, 63, 0), (.nop, 0, 9, 0)] 63 [some (.ref (79)), some (.int (x1)), some (.int (x2)), some (.int (x3)), some (.int (x4)), some (.int (x5)), some (.int (v18)), some (.int (x7 + 0)), some (.int (x8 + 1)), none] [] u27 [] (by decide +kernel) (by refine qt_iconst qc_0 ?_; refine qt_iadd ?_; refine qt_istore (L' := [some (.ref (79)), some (.int (x1)), some (.int (x2)), some (.int (x3)), some (.int (x4)), some (.int (x5)), some (.int (v18)), some (.int (x7 + 0)), some (.int (x8)), some (.int (v18))]) rfl ?_; refine qt_iinc (x := x8) (L' := [some (.ref (79)), some (.int (x1)), some (.int (x2)), some (.int (x3)), some (.int (x4)), some (.int (x5)), some (.int (v18)), some (.int (x7 + 0)), some (.int (x8 + 1)), some (.int (v18))]) rfl qc_1 rfl ?_; refine qt_goto ?_; refine qt_nop (L' := [some (.ref (79)), some (.int (x1)), some (.int (x2)), some (.int (x3)), some (.int (x4)), some (.int (x5)), some (.int (v18)), some (.int (x7 + 0)), some (.int (x8 + 1)), none]) rfl ?_; exact qt_z rfl rfl rfl rfl rfl) trivial ?_
            exact h
          · replace h := h.2 hc
            refine s_blk [(.iconst 1, 1, 0, 0), (.goto 4, 3, 136, 0), (.iadd, 1, 0, 0), (.istore 7, 2, 0, 0), (.iinc 8 1, 3, 0, 0), (.goto (-79), 3, 63, 0), (.nop, 0, 9, 0)] 63 [some (.ref (79)), some (.int (x1)), some (.int (x2)), some (.int (x3)), some (.int (x4)), some (.int (x5)), some (.int (v18)), some (.int (x7 + 1)), some (.int (x8 + 1)), none] [] u27 [] (by decide +kernel) (by refine qt_iconst qc_1 ?_; refine qt_goto ?_; refine qt_iadd ?_; refine qt_istore (L' := [some (.ref (79)), some (.int (x1)), some (.int (x2)), some (.int (x3)), some (.int (x4)), some (.int (x5)), some (.int (v18)), some (.int (x7 + 1)), some (.int (x8)), some (.int (v18))]) rfl ?_; refine qt_iinc (x := x8) (L' := [some (.ref (79)), some (.int (x1)), some (.int (x2)), some (.int (x3)), some (.int (x4)), some (.int (x5)), some (.int (v18)), some (.int (x7 + 1)), some (.int (x8 + 1)), some (.int (v18))]) rfl qc_1 rfl ?_; refine qt_goto ?_; refine qt_nop (L' := [some (.ref (79)), some (.int (x1)), some (.int (x2)), some (.int (x3)), some (.int (x4)), some (.int (x5)), some (.int (v18)), some (.int (x7 + 1)), some (.int (x8 + 1)), none]) rfl ?_; exact qt_z rfl rfl rfl rfl rfl) trivial ?_
            exact h
      · replace h := h.2 hc
        refine s_blk [(.iload 9, 2, 0, 0), (.goto 5, 3, 104, 0), (.istore 5, 2, 0, 0), (.iload 9, 2, 0, 0), (.iload 6, 2, 0, 0)] 110 [some (.ref (79)), some (.int (x1)), some (.int (x2)), some (.int (x3)), some (.int (x4)), some (.int (v18)), some (.int (x6)), some (.int (x7)), some (.int (x8)), some (.int (v18))] [.int (x6), .int (v18)] u19 [] (by decide +kernel) (by refine qt_iload (x := v18) rfl ?_; refine qt_goto ?_; refine qt_istore (L' := [some (.ref (79)), some (.int (x1)), some (.int (x2)), some (.int (x3)), some (.int (x4)), some (.int (v18)), some (.int (x6)), some (.int (x7)), some (.int (x8)), some (.int (v18))]) rfl ?_; refine qt_iload (x := v18) rfl ?_; refine qt_iload (x := x6) rfl ?_; exact qt_z rfl rfl rfl rfl rfl) trivial ?_
        refine s_icmp (cd := .le) (off := 8) 118 (by decide +kernel) (by decide) (fun hc => ?_) (fun hc => ?_)
        · replace h := h.1 hc
          refine s_blk [(.iload 6, 2, 0, 0), (.istore 6, 2, 0, 0), (.iload 7, 2, 0, 0), (.aload_n 0, 1, 0, 0)] 125 [some (.ref (79)), some (.int (x1)), some (.int (x2)), some (.int (x3)), some (.int (x4)), some (.int (v18)), some (.int (x6)), some (.int (x7)), some (.int (x8)), some (.int (v18))] [.ref (79), .int (x7)] u19 [] (by decide +kernel) (by refine qt_iload (x := x6) rfl ?_; refine qt_istore (L' := [some (.ref (79)), some (.int (x1)), some (.int (x2)), some (.int (x3)), some (.int (x4)), some (.int (v18)), some (.int (x6)), some (.int (x7)), some (.int (x8)), some (.int (v18))]) rfl ?_; refine qt_iload (x := x7) rfl ?_; refine qt_aload_n (r := 79) rfl ?_; exact qt_z rfl rfl rfl rfl rfl) trivial ?_
          refine s_callV (a := 0) (a' := 0) (As := []) (id := 79) (st := [.int (x7)]) kX12_lateAll l_12_416 (by decide +kernel) (q_id_of rfl) rfl (Nat.le_of_ble_eq_true rfl) (s_mono h (s_I_of (fun v28 u29 h => ?_)) (fun _ _ h9 => h9))
          show s_Ex (d + 1) 0 mX12_span 128 [some (.ref (79)), some (.int (x1)), some (.int (x2)), some (.int (x3)), some (.int (x4)), some (.int (v18)), some (.int (x6)), some (.int (x7)), some (.int (x8)), some (.int (v18))] [.int (v28), .int (x7)] u29 Q X
          refine s_if (cd := .ne) (off := 7) 135 (by decide +kernel) (by decide) (fun hc => ?_) (fun hc => ?_)
          · replace h := h.1 hc
            refine s_blk [(.iconst 0, 1, 0, 0), (.iadd, 1, 0, 0), (.istore 7, 2, 0, 0), (.iinc 8 1, 3, 0, 0), (.goto (-79), 3, 63, 0), (.nop, 0, 9, 0)] 63 [some (.ref (79)), some (.int (x1)), some (.int (x2)), some (.int (x3)), some (.int (x4)), some (.int (v18)), some (.int (x6)), some (.int (x7 + 0)), some (.int (x8 + 1)), none] [] u29 [] (by decide +kernel) (by refine qt_iconst qc_0 ?_; refine qt_iadd ?_; refine qt_istore (L' := [some (.ref (79)), some (.int (x1)), some (.int (x2)), some (.int (x3)), some (.int (x4)), some (.int (v18)), some (.int (x6)), some (.int (x7 + 0)), some (.int (x8)), some (.int (v18))]) rfl ?_; refine qt_iinc (x := x8) (L' := [some (.ref (79)), some (.int (x1)), some (.int (x2)), some (.int (x3)), some (.int (x4)), some (.int (v18)), some (.int (x6)), some (.int (x7 + 0)), some (.int (x8 + 1)), some (.int (v18))]) rfl qc_1 rfl ?_; refine qt_goto ?_; refine qt_nop (L' := [some (.ref (79)), some (.int (x1)), some (.int (x2)), some (.int (x3)), some (.int (x4)), some (.int (v18)), some (.int (x6)), some (.int (x7 + 0)), some (.int (x8 + 1)), none]) rfl ?_; exact qt_z rfl rfl rfl rfl rfl) trivial ?_
            exact h
          · replace h := h.2 hc
            refine s_blk [(.iconst 1, 1, 0, 0), (.goto 4, 3, 136, 0), (.iadd, 1, 0, 0), (.istore 7, 2, 0, 0), (.iinc 8 1, 3, 0, 0), (.goto (-79), 3, 63, 0), (.nop, 0, 9, 0)] 63 [some (.ref (79)), some (.int (x1)), some (.int (x2)), some (.int (x3)), some (.int (x4)), some (.int (v18)), some (.int (x6)), some (.int (x7 + 1)), some (.int (x8 + 1)), none] [] u29 [] (by decide +kernel) (by refine qt_iconst qc_1 ?_; refine qt_goto ?_; refine qt_iadd ?_; refine qt_istore (L' := [some (.ref (79)), some (.int (x1)), some (.int (x2)), some (.int (x3)), some (.int (x4)), some (.int (v18)), some (.int (x6)), some (.int (x7 + 1)), some (.int (x8)), some (.int (v18))]) rfl ?_; refine qt_iinc (x := x8) (L' := [some (.ref (79)), some (.int (x1)), some (.int (x2)), some (.int (x3)), some (.int (x4)), some (.int (v18)), some (.int (x6)), some (.int (x7 + 1)), some (.int (x8 + 1)), some (.int (v18))]) rfl qc_1 rfl ?_; refine qt_goto ?_; refine qt_nop (L' := [some (.ref (79)), some (.int (x1)), some (.int (x2)), some (.int (x3)), some (.int (x4)), some (.int (v18)), some (.int (x6)), some (.int (x7 + 1)), some (.int (x8 + 1)), none]) rfl ?_; exact qt_z rfl rfl rfl rfl rfl) trivial ?_
            exact h
        · replace h := h.2 hc
          refine s_blk [(.iload 9, 2, 0, 0), (.goto 5, 3, 120, 0), (.istore 6, 2, 0, 0), (.iload 7, 2, 0, 0), (.aload_n 0, 1, 0, 0)] 125 [some (.ref (79)), some (.int (x1)), some (.int (x2)), some (.int (x3)), some (.int (x4)), some (.int (v18)), some (.int (v18)), some (.int (x7)), some (.int (x8)), some (.int (v18))] [.ref (79), .int (x7)] u19 [] (by decide +kernel) (by refine qt_iload (x := v18) rfl ?_; refine qt_goto ?_; refine qt_istore (L' := [some (.ref (79)), some (.int (x1)), some (.int (x2)), some (.int (x3)), some (.int (x4)), some (.int (v18)), some (.int (v18)), some (.int (x7)), some (.int (x8)), some (.int (v18))]) rfl ?_; refine qt_iload (x := x7) rfl ?_; refine qt_aload_n (r := 79) rfl ?_; exact qt_z rfl rfl rfl rfl rfl) trivial ?_
          refine s_callV (a := 0) (a' := 0) (As := []) (id := 79) (st := [.int (x7)]) kX12_lateAll l_12_416 (by decide +kernel) (q_id_of rfl) rfl (Nat.le_of_ble_eq_true rfl) (s_mono h (s_I_of (fun v30 u31 h => ?_)) (fun _ _ h9 => h9))
          show s_Ex (d + 1) 0 mX12_span 128 [some (.ref (79)), some (.int (x1)), some (.int (x2)), some (.int (x3)), some (.int (x4)), some (.int (v18)), some (.int (v18)), some (.int (x7)), some (.int (x8)), some (.int (v18))] [.int (v30), .int (x7)] u31 Q X
          refine s_if (cd := .ne) (off := 7) 135 (by decide +kernel) (by decide) (fun hc => ?_) (fun hc => ?_)
          · replace h := h.1 hc
            refine s_blk [(.iconst 0, 1, 0, 0), (.iadd, 1, 0, 0), (.istore 7, 2, 0, 0), (.iinc 8 1, 3, 0, 0), (.goto (-79), 3, 63, 0), (.nop, 0, 9, 0)] 63 [some (.ref (79)), some (.int (x1)), some (.int (x2)), some (.int (x3)), some (.int (x4)), some (.int (v18)), some (.int (v18)), some (.int (x7 + 0)), some (.int (x8 + 1)), none] [] u31 [] (by decide +kernel) (by refine qt_iconst qc_0 ?_; refine qt_iadd ?_; refine qt_istore (L' := [some (.ref (79)), some (.int (x1)), some (.int (x2)), some (.int (x3)), some (.int (x4)), some (.int (v18)), some (.int (v18)), some (.int (x7 + 0)), some (.int (x8)), some (.int (v18))]) rfl ?_; refine qt_iinc (x := x8) (L' := [some (.ref (79)), some (.int (x1)), some (.int (x2)), some (.int (x3)), some (.int (x4)), some (.int (v18)), some (.int (v18)), some (.int (x7 + 0)), some (.int (x8 + 1)), some (.int (v18))]) rfl qc_1 rfl ?_; refine qt_goto ?_; refine qt_nop (L' := [some (.ref (79)), some (.int (x1)), some (.int (x2)), some (.int (x3)), some (.int (x4)), some (.int (v18)), some (.int (v18)), some (.int (x7 + 0)), some (.int (x8 + 1)), none]) rfl ?_; exact qt_z rfl rfl rfl rfl rfl) trivial ?_
            exact h
          · replace h := h.2 hc
            refine s_blk [(.iconst 1, 1, 0, 0), (.goto 4, 3, 136, 0), (.iadd, 1, 0, 0), (.istore 7, 2, 0, 0), (.iinc 8 1, 3, 0, 0), (.goto (-79), 3, 63, 0), (.nop, 0, 9, 0)] 63 [some (.ref (79)), some (.int (x1)), some (.int (x2)), some (.int (x3)), some (.int (x4)), some (.int (v18)), some (.int (v18)), some (.int (x7 + 1)), some (.int (x8 + 1)), none] [] u31 [] (by decide +kernel) (by refine qt_iconst qc_1 ?_; refine qt_goto ?_; refine qt_iadd ?_; refine qt_istore (L' := [some (.ref (79)), some (.int (x1)), some (.int (x2)), some (.int (x3)), some (.int (x4)), some (.int (v18)), some (.int (v18)), some (.int (x7 + 1)), some (.int (x8)), some (.int (v18))]) rfl ?_; refine qt_iinc (x := x8) (L' := [some (.ref (79)), some (.int (x1)), some (.int (x2)), some (.int (x3)), some (.int (x4)), some (.int (v18)), some (.int (v18)), some (.int (x7 + 1)), some (.int (x8 + 1)), some (.int (v18))]) rfl qc_1 rfl ?_; refine qt_goto ?_; refine qt_nop (L' := [some (.ref (79)), some (.int (x1)), some (.int (x2)), some (.int (x3)), some (.int (x4)), some (.int (v18)), some (.int (v18)), some (.int (x7 + 1)), some (.int (x8 + 1)), none]) rfl ?_; exact qt_z rfl rfl rfl rfl rfl) trivial ?_
            exact h
theorem eX12_span {d : Nat} {x1 : Int32} {x2 : Int32} {x3 : Int32} {x4 : Int32} {w : q_Sm} {Q : s_Po} {X : s_Xo} (h : vX12_span_0 d x1 x2 x3 x4 w Q X) : s_Ev (d + 1) 0 mX12_span w [.ref (79), .int (x1), .int (x2), .int (x3), .int (x4)] Q X := s_of (by decide) rfl (Nat.le_of_ble_eq_true rfl) (xX12_span_0 h)
def vX12_greatest_0 (d : Nat)  (w : q_Sm) (Q : s_Po) (X : s_Xo) : Prop := ∀ w_1 : q_Sm, w_1 = q_wI w 79 0 0 → s_Ex (d + 1) 0 mX12_greatest 11 [some (.ref (79)), some (.int (-1)), some (.int (0)), some (.int (0))] [] w_1 Q X
def vX12_greatest_11 (d : Nat) (x1 : Int32) (x2 : Int32) (x3 : Int32) (w : q_Sm) (Q : s_Po) (X : s_Xo) : Prop := (((w.1 79 29) ≤ x3) → Q (some (.int (x1))) w) ∧ (¬ ((w.1 79 29) ≤ x3) → s_EvI d 0 mX12_owedTo w [.ref (79), .int (x3), .int (-1)] (fun v2 u3 => ((x2 < v2) → s_EvI d 0 mX12_owedTo u3 [.ref (79), .int (x3), .int (-1)] (fun v4 u5 => s_Ex (d + 1) 0 mX12_greatest 11 [some (.ref (79)), some (.int (x3)), some (.int (v4)), some (.int (x3 + 1))] [] u5 Q X) X) ∧ (¬ (x2 < v2) → s_Ex (d + 1) 0 mX12_greatest 11 [some (.ref (79)), some (.int (x1)), some (.int (x2)), some (.int (x3 + 1))] [] u3 Q X)) X)
theorem xX12_greatest_0 {d : Nat}  {w : q_Sm} {Q : s_Po} {X : s_Xo} (h : vX12_greatest_0 d  w Q X) : s_Ex (d + 1) 0 mX12_greatest 0 [some (.ref (79)), none, none, none] [] w Q X := by
  unfold vX12_greatest_0 at h
  replace h := h _ rfl
  refine s_blk [(.aload_n 0, 1, 0, 0), (.iconst 0, 1, 0, 0), (.putfield 3, 3, 12, 0), (.iconst (-1), 1, 0, 0), (.istore_n 1, 1, 0, 0), (.iconst 0, 1, 0, 0), (.istore_n 2, 1, 0, 0), (.iconst 0, 1, 0, 0), (.istore_n 3, 1, 0, 0)] 11 [some (.ref (79)), some (.int (-1)), some (.int (0)), some (.int (0))] [] (q_wI w 79 0 0) [q_id 116 12 79] (by decide +kernel) (by refine qt_aload_n (r := 79) rfl ?_; refine qt_iconst qc_0 ?_; refine qt_putI rfl ?_; refine qt_iconst qc_m1 ?_; refine qt_istore_n (L' := [some (.ref (79)), some (.int (-1)), none, none]) rfl ?_; refine qt_iconst qc_0 ?_; refine qt_istore_n (L' := [some (.ref (79)), some (.int (-1)), some (.int (0)), none]) rfl ?_; refine qt_iconst qc_0 ?_; refine qt_istore_n (L' := [some (.ref (79)), some (.int (-1)), some (.int (0)), some (.int (0))]) rfl ?_; exact qt_z rfl rfl rfl rfl rfl) (q_id_of rfl) ?_
  exact h
theorem xX12_greatest_11 {d : Nat} {x1 : Int32} {x2 : Int32} {x3 : Int32} {w : q_Sm} {Q : s_Po} {X : s_Xo} (h : vX12_greatest_11 d x1 x2 x3 w Q X) : s_Ex (d + 1) 0 mX12_greatest 11 [some (.ref (79)), some (.int (x1)), some (.int (x2)), some (.int (x3))] [] w Q X := by
  unfold vX12_greatest_11 at h
  refine s_blk [(.iload_n 3, 1, 0, 0), (.aload_n 0, 1, 0, 0), (.getfield 193, 3, 12, 29)] 16 [some (.ref (79)), some (.int (x1)), some (.int (x2)), some (.int (x3))] [.int (w.1 79 29), .int (x3)] w [q_id 116 12 79] (by decide +kernel) (by refine qt_iload_n (x := x3) rfl ?_; refine qt_aload_n (r := 79) rfl ?_; refine qt_getI rfl ?_; exact qt_z rfl rfl rfl rfl rfl) (q_id_of rfl) ?_
  refine s_icmp (cd := .ge) (off := 31) 47 (by decide +kernel) (by decide) (fun hc => ?_) (fun hc => ?_)
  · replace h := h.1 hc
    refine s_blk [(.iload_n 1, 1, 0, 0)] 48 [some (.ref (79)), some (.int (x1)), some (.int (x2)), some (.int (x3))] [.int (x1)] w [] (by decide +kernel) (by refine qt_iload_n (x := x1) rfl ?_; exact qt_z rfl rfl rfl rfl rfl) trivial ?_
    exact s_retI .int (by decide +kernel) rfl rfl h
  · replace h := h.2 hc
    refine s_blk [(.aload_n 0, 1, 0, 0), (.iload_n 3, 1, 0, 0), (.iconst (-1), 1, 0, 0)] 22 [some (.ref (79)), some (.int (x1)), some (.int (x2)), some (.int (x3))] [.int (-1), .int (x3), .ref (79)] w [] (by decide +kernel) (by refine qt_aload_n (r := 79) rfl ?_; refine qt_iload_n (x := x3) rfl ?_; refine qt_iconst qc_m1 ?_; exact qt_z rfl rfl rfl rfl rfl) trivial ?_
    refine s_callV (a := 0) (a' := 0) (As := [.int (x3), .int (-1)]) (id := 79) (st := []) kX12_owedTo l_12_421 (by decide +kernel) (q_id_of rfl) rfl (Nat.le_of_ble_eq_true rfl) (s_mono h (s_I_of (fun v2 u3 h => ?_)) (fun _ _ h9 => h9))
    show s_Ex (d + 1) 0 mX12_greatest 25 [some (.ref (79)), some (.int (x1)), some (.int (x2)), some (.int (x3))] [.int (v2)] u3 Q X
    refine s_blk [(.iload_n 2, 1, 0, 0)] 26 [some (.ref (79)), some (.int (x1)), some (.int (x2)), some (.int (x3))] [.int (x2), .int (v2)] u3 [] (by decide +kernel) (by refine qt_iload_n (x := x2) rfl ?_; exact qt_z rfl rfl rfl rfl rfl) trivial ?_
    refine s_icmp (cd := .gt) (off := 6) 32 (by decide +kernel) (by decide) (fun hc => ?_) (fun hc => ?_)
    · replace h := h.1 hc
      refine s_blk [(.iload_n 3, 1, 0, 0), (.istore_n 1, 1, 0, 0), (.aload_n 0, 1, 0, 0), (.iload_n 3, 1, 0, 0), (.iconst (-1), 1, 0, 0)] 37 [some (.ref (79)), some (.int (x3)), some (.int (x2)), some (.int (x3))] [.int (-1), .int (x3), .ref (79)] u3 [] (by decide +kernel) (by refine qt_iload_n (x := x3) rfl ?_; refine qt_istore_n (L' := [some (.ref (79)), some (.int (x3)), some (.int (x2)), some (.int (x3))]) rfl ?_; refine qt_aload_n (r := 79) rfl ?_; refine qt_iload_n (x := x3) rfl ?_; refine qt_iconst qc_m1 ?_; exact qt_z rfl rfl rfl rfl rfl) trivial ?_
      refine s_callV (a := 0) (a' := 0) (As := [.int (x3), .int (-1)]) (id := 79) (st := []) kX12_owedTo l_12_421 (by decide +kernel) (q_id_of rfl) rfl (Nat.le_of_ble_eq_true rfl) (s_mono h (s_I_of (fun v4 u5 h => ?_)) (fun _ _ h9 => h9))
      show s_Ex (d + 1) 0 mX12_greatest 40 [some (.ref (79)), some (.int (x3)), some (.int (x2)), some (.int (x3))] [.int (v4)] u5 Q X
      refine s_blk [(.istore_n 2, 1, 0, 0), (.iinc 3 1, 3, 0, 0), (.goto (-33), 3, 11, 0)] 11 [some (.ref (79)), some (.int (x3)), some (.int (v4)), some (.int (x3 + 1))] [] u5 [] (by decide +kernel) (by refine qt_istore_n (L' := [some (.ref (79)), some (.int (x3)), some (.int (v4)), some (.int (x3))]) rfl ?_; refine qt_iinc (x := x3) (L' := [some (.ref (79)), some (.int (x3)), some (.int (v4)), some (.int (x3 + 1))]) rfl qc_1 rfl ?_; refine qt_goto ?_; exact qt_z rfl rfl rfl rfl rfl) trivial ?_
      exact h
    · replace h := h.2 hc
      refine s_blk [(.goto 12, 3, 41, 0), (.iinc 3 1, 3, 0, 0), (.goto (-33), 3, 11, 0)] 11 [some (.ref (79)), some (.int (x1)), some (.int (x2)), some (.int (x3 + 1))] [] u3 [] (by decide +kernel) (by refine qt_goto ?_; refine qt_iinc (x := x3) (L' := [some (.ref (79)), some (.int (x1)), some (.int (x2)), some (.int (x3 + 1))]) rfl qc_1 rfl ?_; refine qt_goto ?_; exact qt_z rfl rfl rfl rfl rfl) trivial ?_
      exact h
theorem eX12_greatest {d : Nat}  {w : q_Sm} {Q : s_Po} {X : s_Xo} (h : vX12_greatest_0 d  w Q X) : s_Ev (d + 1) 0 mX12_greatest w [.ref (79)] Q X := s_of (by decide) rfl (Nat.le_of_ble_eq_true rfl) (xX12_greatest_0 h)
def vX12_brightest_0 (d : Nat) (x1 : Int32) (w : q_Sm) (Q : s_Po) (X : s_Xo) : Prop := ∀ w_1 : q_Sm, w_1 = q_wI w 79 0 0 → s_EvI d 0 mX12_isColour w_1 [.int (x1)] (fun v2 u3 => s_EvI d 0 mX12_may u3 [.ref (79), .int (v2), .int (1), .int (1)] (fun v4 u5 => ((¬ v4 = 0) → s_Ex (d + 1) 0 mX12_brightest 24 [some (.ref (79)), some (.int (x1)), some (.int (-1)), some (.int (0))] [] u5 Q X) ∧ (¬ (¬ v4 = 0) → Q (some (.int (0))) u5)) X) X
def vX12_brightest_24 (d : Nat) (x1 : Int32) (x2 : Int32) (x3 : Int32) (w : q_Sm) (Q : s_Po) (X : s_Xo) : Prop := (((w.1 79 31) ≤ x3) → Q (some (.int (x2))) w) ∧ (¬ ((w.1 79 31) ≤ x3) → ((x2 = (-1)) → s_Ex (d + 1) 0 mX12_brightest 24 [some (.ref (79)), some (.int (x1)), some (.int (x3)), some (.int (x3 + 1))] [] w Q X) ∧ (¬ (x2 = (-1)) → s_EvI d 0 mX12_lightOf w [.ref (79), .int (x3), .int (x1)] (fun v6 u7 => s_EvI d 0 mX12_lightOf u7 [.ref (79), .int (x2), .int (x1)] (fun v8 u9 => ((v6 ≤ v8) → s_Ex (d + 1) 0 mX12_brightest 24 [some (.ref (79)), some (.int (x1)), some (.int (x2)), some (.int (x3 + 1))] [] u9 Q X) ∧ (¬ (v6 ≤ v8) → s_Ex (d + 1) 0 mX12_brightest 24 [some (.ref (79)), some (.int (x1)), some (.int (x3)), some (.int (x3 + 1))] [] u9 Q X)) X) X))
theorem xX12_brightest_0 {d : Nat} {x1 : Int32} {w : q_Sm} {Q : s_Po} {X : s_Xo} (h : vX12_brightest_0 d x1 w Q X) : s_Ex (d + 1) 0 mX12_brightest 0 [some (.ref (79)), some (.int (x1)), none, none] [] w Q X := by
  unfold vX12_brightest_0 at h
  replace h := h _ rfl
  refine s_blk [(.aload_n 0, 1, 0, 0), (.iconst 0, 1, 0, 0), (.putfield 3, 3, 12, 0), (.aload_n 0, 1, 0, 0), (.iload_n 1, 1, 0, 0)] 7 [some (.ref (79)), some (.int (x1)), none, none] [.int (x1), .ref (79)] (q_wI w 79 0 0) [q_id 116 12 79] (by decide +kernel) (by refine qt_aload_n (r := 79) rfl ?_; refine qt_iconst qc_0 ?_; refine qt_putI rfl ?_; refine qt_aload_n (r := 79) rfl ?_; refine qt_iload_n (x := x1) rfl ?_; exact qt_z rfl rfl rfl rfl rfl) (q_id_of rfl) ?_
  refine s_callS (a := 0) (a' := 0) (As := [.int (x1)]) (st := [.ref (79)]) kX12_isColour l_12_427 (by decide +kernel) rfl (Nat.le_of_ble_eq_true rfl) (s_mono h (s_I_of (fun v2 u3 h => ?_)) (fun _ _ h9 => h9))
  show s_Ex (d + 1) 0 mX12_brightest 10 [some (.ref (79)), some (.int (x1)), none, none] [.int (v2), .ref (79)] u3 Q X
  refine s_blk [(.iconst 1, 1, 0, 0), (.iconst 1, 1, 0, 0)] 12 [some (.ref (79)), some (.int (x1)), none, none] [.int (1), .int (1), .int (v2), .ref (79)] u3 [] (by decide +kernel) (by refine qt_iconst qc_1 ?_; refine qt_iconst qc_1 ?_; exact qt_z rfl rfl rfl rfl rfl) trivial ?_
  refine s_callV (a := 0) (a' := 0) (As := [.int (v2), .int (1), .int (1)]) (id := 79) (st := []) kX12_may l_12_270 (by decide +kernel) (q_id_of rfl) rfl (Nat.le_of_ble_eq_true rfl) (s_mono h (s_I_of (fun v4 u5 h => ?_)) (fun _ _ h9 => h9))
  show s_Ex (d + 1) 0 mX12_brightest 15 [some (.ref (79)), some (.int (x1)), none, none] [.int (v4)] u5 Q X
  refine s_if (cd := .ne) (off := 5) 20 (by decide +kernel) (by decide) (fun hc => ?_) (fun hc => ?_)
  · replace h := h.1 hc
    refine s_blk [(.iconst (-1), 1, 0, 0), (.istore_n 2, 1, 0, 0), (.iconst 0, 1, 0, 0), (.istore_n 3, 1, 0, 0)] 24 [some (.ref (79)), some (.int (x1)), some (.int (-1)), some (.int (0))] [] u5 [] (by decide +kernel) (by refine qt_iconst qc_m1 ?_; refine qt_istore_n (L' := [some (.ref (79)), some (.int (x1)), some (.int (-1)), none]) rfl ?_; refine qt_iconst qc_0 ?_; refine qt_istore_n (L' := [some (.ref (79)), some (.int (x1)), some (.int (-1)), some (.int (0))]) rfl ?_; exact qt_z rfl rfl rfl rfl rfl) trivial ?_
    exact h
  · replace h := h.2 hc
    refine s_blk [(.iconst 0, 1, 0, 0)] 19 [some (.ref (79)), some (.int (x1)), none, none] [.int (0)] u5 [] (by decide +kernel) (by refine qt_iconst qc_0 ?_; exact qt_z rfl rfl rfl rfl rfl) trivial ?_
    exact s_retI .int (by decide +kernel) rfl rfl h
theorem xX12_brightest_24 {d : Nat} {x1 : Int32} {x2 : Int32} {x3 : Int32} {w : q_Sm} {Q : s_Po} {X : s_Xo} (h : vX12_brightest_24 d x1 x2 x3 w Q X) : s_Ex (d + 1) 0 mX12_brightest 24 [some (.ref (79)), some (.int (x1)), some (.int (x2)), some (.int (x3))] [] w Q X := by
  unfold vX12_brightest_24 at h
  refine s_blk [(.iload_n 3, 1, 0, 0), (.aload_n 0, 1, 0, 0), (.getfield 199, 3, 12, 31)] 29 [some (.ref (79)), some (.int (x1)), some (.int (x2)), some (.int (x3))] [.int (w.1 79 31), .int (x3)] w [q_id 116 12 79] (by decide +kernel) (by refine qt_iload_n (x := x3) rfl ?_; refine qt_aload_n (r := 79) rfl ?_; refine qt_getI rfl ?_; exact qt_z rfl rfl rfl rfl rfl) (q_id_of rfl) ?_
  refine s_icmp (cd := .ge) (off := 31) 60 (by decide +kernel) (by decide) (fun hc => ?_) (fun hc => ?_)
  · replace h := h.1 hc
    refine s_blk [(.iload_n 2, 1, 0, 0)] 61 [some (.ref (79)), some (.int (x1)), some (.int (x2)), some (.int (x3))] [.int (x2)] w [] (by decide +kernel) (by refine qt_iload_n (x := x2) rfl ?_; exact qt_z rfl rfl rfl rfl rfl) trivial ?_
    exact s_retI .int (by decide +kernel) rfl rfl h
  · replace h := h.2 hc
    refine s_blk [(.iload_n 2, 1, 0, 0), (.iconst (-1), 1, 0, 0)] 34 [some (.ref (79)), some (.int (x1)), some (.int (x2)), some (.int (x3))] [.int (-1), .int (x2)] w [] (by decide +kernel) (by refine qt_iload_n (x := x2) rfl ?_; refine qt_iconst qc_m1 ?_; exact qt_z rfl rfl rfl rfl rfl) trivial ?_
    refine s_icmp (cd := .eq) (off := 18) 52 (by decide +kernel) (by decide) (fun hc => ?_) (fun hc => ?_)
    · replace h := h.1 hc
      refine s_blk [(.iload_n 3, 1, 0, 0), (.istore_n 2, 1, 0, 0), (.iinc 3 1, 3, 0, 0), (.goto (-33), 3, 24, 0)] 24 [some (.ref (79)), some (.int (x1)), some (.int (x3)), some (.int (x3 + 1))] [] w [] (by decide +kernel) (by refine qt_iload_n (x := x3) rfl ?_; refine qt_istore_n (L' := [some (.ref (79)), some (.int (x1)), some (.int (x3)), some (.int (x3))]) rfl ?_; refine qt_iinc (x := x3) (L' := [some (.ref (79)), some (.int (x1)), some (.int (x3)), some (.int (x3 + 1))]) rfl qc_1 rfl ?_; refine qt_goto ?_; exact qt_z rfl rfl rfl rfl rfl) trivial ?_
      exact h
    · replace h := h.2 hc
      refine s_blk [(.aload_n 0, 1, 0, 0), (.iload_n 3, 1, 0, 0), (.iload_n 1, 1, 0, 0)] 40 [some (.ref (79)), some (.int (x1)), some (.int (x2)), some (.int (x3))] [.int (x1), .int (x3), .ref (79)] w [] (by decide +kernel) (by refine qt_aload_n (r := 79) rfl ?_; refine qt_iload_n (x := x3) rfl ?_; refine qt_iload_n (x := x1) rfl ?_; exact qt_z rfl rfl rfl rfl rfl) trivial ?_
      refine s_callV (a := 0) (a' := 0) (As := [.int (x3), .int (x1)]) (id := 79) (st := []) kX12_lightOf l_12_227 (by decide +kernel) (q_id_of rfl) rfl (Nat.le_of_ble_eq_true rfl) (s_mono h (s_I_of (fun v6 u7 h => ?_)) (fun _ _ h9 => h9))
      show s_Ex (d + 1) 0 mX12_brightest 43 [some (.ref (79)), some (.int (x1)), some (.int (x2)), some (.int (x3))] [.int (v6)] u7 Q X
      refine s_blk [(.aload_n 0, 1, 0, 0), (.iload_n 2, 1, 0, 0), (.iload_n 1, 1, 0, 0)] 46 [some (.ref (79)), some (.int (x1)), some (.int (x2)), some (.int (x3))] [.int (x1), .int (x2), .ref (79), .int (v6)] u7 [] (by decide +kernel) (by refine qt_aload_n (r := 79) rfl ?_; refine qt_iload_n (x := x2) rfl ?_; refine qt_iload_n (x := x1) rfl ?_; exact qt_z rfl rfl rfl rfl rfl) trivial ?_
      refine s_callV (a := 0) (a' := 0) (As := [.int (x2), .int (x1)]) (id := 79) (st := [.int (v6)]) kX12_lightOf l_12_227 (by decide +kernel) (q_id_of rfl) rfl (Nat.le_of_ble_eq_true rfl) (s_mono h (s_I_of (fun v8 u9 h => ?_)) (fun _ _ h9 => h9))
      show s_Ex (d + 1) 0 mX12_brightest 49 [some (.ref (79)), some (.int (x1)), some (.int (x2)), some (.int (x3))] [.int (v8), .int (v6)] u9 Q X
      refine s_icmp (cd := .le) (off := 5) 54 (by decide +kernel) (by decide) (fun hc => ?_) (fun hc => ?_)
      · replace h := h.1 hc
        refine s_blk [(.iinc 3 1, 3, 0, 0), (.goto (-33), 3, 24, 0)] 24 [some (.ref (79)), some (.int (x1)), some (.int (x2)), some (.int (x3 + 1))] [] u9 [] (by decide +kernel) (by refine qt_iinc (x := x3) (L' := [some (.ref (79)), some (.int (x1)), some (.int (x2)), some (.int (x3 + 1))]) rfl qc_1 rfl ?_; refine qt_goto ?_; exact qt_z rfl rfl rfl rfl rfl) trivial ?_
        exact h
      · replace h := h.2 hc
        refine s_blk [(.iload_n 3, 1, 0, 0), (.istore_n 2, 1, 0, 0), (.iinc 3 1, 3, 0, 0), (.goto (-33), 3, 24, 0)] 24 [some (.ref (79)), some (.int (x1)), some (.int (x3)), some (.int (x3 + 1))] [] u9 [] (by decide +kernel) (by refine qt_iload_n (x := x3) rfl ?_; refine qt_istore_n (L' := [some (.ref (79)), some (.int (x1)), some (.int (x3)), some (.int (x3))]) rfl ?_; refine qt_iinc (x := x3) (L' := [some (.ref (79)), some (.int (x1)), some (.int (x3)), some (.int (x3 + 1))]) rfl qc_1 rfl ?_; refine qt_goto ?_; exact qt_z rfl rfl rfl rfl rfl) trivial ?_
        exact h
theorem eX12_brightest {d : Nat} {x1 : Int32} {w : q_Sm} {Q : s_Po} {X : s_Xo} (h : vX12_brightest_0 d x1 w Q X) : s_Ev (d + 1) 0 mX12_brightest w [.ref (79), .int (x1)] Q X := s_of (by decide) rfl (Nat.le_of_ble_eq_true rfl) (xX12_brightest_0 h)
def vX12_keepsRow_0 (d : Nat) (x1 : Int32) (r2 : Nat) (x3 : Int32) (x4 : Int32) (w : q_Sm) (Q : s_Po) (X : s_Xo) : Prop := s_Ex (d + 1) 0 mX12_keepsRow 3 [some (.ref (79)), some (.int (x1)), some (.ref (r2)), some (.int (x3)), some (.int (x4)), some (.int (0))] [] w Q X
def vX12_keepsRow_3 (d : Nat) (x1 : Int32) (r2 : Nat) (x3 : Int32) (x4 : Int32) (x5 : Int32) (w : q_Sm) (Q : s_Po) (X : s_Xo) : Prop := ((x3 ≤ x5) → Q (some (.int (x1 + x3))) w) ∧ (¬ (x3 ≤ x5) → ((x4 = 0) → (vp_in (x1 + x5) 3216) ∧ (q_id 116 14 r2) ∧ (vp_in x5 (q_sh r2).2) ∧ ∀ w_1 : q_Sm, w_1 = q_wI w r2 (Int32.toNatClampNeg x5) (w.1 115 (Int32.toNatClampNeg (x1 + x5))) → s_Ex (d + 1) 0 mX12_keepsRow 3 [some (.ref (79)), some (.int (x1)), some (.ref (r2)), some (.int (x3)), some (.int (x4)), some (.int (x5 + 1))] [] w_1 Q X) ∧ (¬ (x4 = 0) → (q_id 116 14 r2) ∧ (vp_in x5 (q_sh r2).2) ∧ (vp_in (x1 + x5) 3216) ∧ ∀ w_5 : q_Sm, w_5 = q_wI w 115 (Int32.toNatClampNeg (x1 + x5)) (w.1 r2 (Int32.toNatClampNeg x5)) → s_Ex (d + 1) 0 mX12_keepsRow 3 [some (.ref (79)), some (.int (x1)), some (.ref (r2)), some (.int (x3)), some (.int (x4)), some (.int (x5 + 1))] [] w_5 Q X))
theorem xX12_keepsRow_0 {d : Nat} {x1 : Int32} {r2 : Nat} {x3 : Int32} {x4 : Int32} {w : q_Sm} {Q : s_Po} {X : s_Xo} (h : vX12_keepsRow_0 d x1 r2 x3 x4 w Q X) : s_Ex (d + 1) 0 mX12_keepsRow 0 [some (.ref (79)), some (.int (x1)), some (.ref (r2)), some (.int (x3)), some (.int (x4)), none] [] w Q X := by
  unfold vX12_keepsRow_0 at h
  refine s_blk [(.iconst 0, 1, 0, 0), (.istore 5, 2, 0, 0)] 3 [some (.ref (79)), some (.int (x1)), some (.ref (r2)), some (.int (x3)), some (.int (x4)), some (.int (0))] [] w [] (by decide +kernel) (by refine qt_iconst qc_0 ?_; refine qt_istore (L' := [some (.ref (79)), some (.int (x1)), some (.ref (r2)), some (.int (x3)), some (.int (x4)), some (.int (0))]) rfl ?_; exact qt_z rfl rfl rfl rfl rfl) trivial ?_
  exact h
theorem xX12_keepsRow_3 {d : Nat} {x1 : Int32} {r2 : Nat} {x3 : Int32} {x4 : Int32} {x5 : Int32} {w : q_Sm} {Q : s_Po} {X : s_Xo} (h : vX12_keepsRow_3 d x1 r2 x3 x4 x5 w Q X) : s_Ex (d + 1) 0 mX12_keepsRow 3 [some (.ref (79)), some (.int (x1)), some (.ref (r2)), some (.int (x3)), some (.int (x4)), some (.int (x5))] [] w Q X := by
  unfold vX12_keepsRow_3 at h
  refine s_blk [(.iload 5, 2, 0, 0), (.iload_n 3, 1, 0, 0)] 6 [some (.ref (79)), some (.int (x1)), some (.ref (r2)), some (.int (x3)), some (.int (x4)), some (.int (x5))] [.int (x3), .int (x5)] w [] (by decide +kernel) (by refine qt_iload (x := x5) rfl ?_; refine qt_iload_n (x := x3) rfl ?_; exact qt_z rfl rfl rfl rfl rfl) trivial ?_
  refine s_icmp (cd := .ge) (off := 43) 49 (by decide +kernel) (by decide) (fun hc => ?_) (fun hc => ?_)
  · replace h := h.1 hc
    refine s_blk [(.iload_n 1, 1, 0, 0), (.iload_n 3, 1, 0, 0), (.iadd, 1, 0, 0)] 52 [some (.ref (79)), some (.int (x1)), some (.ref (r2)), some (.int (x3)), some (.int (x4)), some (.int (x5))] [.int (x1 + x3)] w [] (by decide +kernel) (by refine qt_iload_n (x := x1) rfl ?_; refine qt_iload_n (x := x3) rfl ?_; refine qt_iadd ?_; exact qt_z rfl rfl rfl rfl rfl) trivial ?_
    exact s_retI .int (by decide +kernel) rfl rfl h
  · replace h := h.2 hc
    refine s_blk [(.iload 4, 2, 0, 0)] 11 [some (.ref (79)), some (.int (x1)), some (.ref (r2)), some (.int (x3)), some (.int (x4)), some (.int (x5))] [.int (x4)] w [] (by decide +kernel) (by refine qt_iload (x := x4) rfl ?_; exact qt_z rfl rfl rfl rfl rfl) trivial ?_
    refine s_if (cd := .eq) (off := 19) 30 (by decide +kernel) (by decide) (fun hc => ?_) (fun hc => ?_)
    · replace h := h.1 hc
      obtain ⟨ho2, h⟩ := h
      obtain ⟨ho3, h⟩ := h
      obtain ⟨ho4, h⟩ := h
      replace h := h _ rfl
      refine s_blk [(.aload_n 2, 1, 0, 0), (.iload 5, 2, 0, 0), (.aload_n 0, 1, 0, 0), (.getfield 123, 3, 12, 65), (.iload_n 1, 1, 0, 0), (.iload 5, 2, 0, 0), (.iadd, 1, 0, 0), (.iaload, 1, 0, 0), (.iastore, 1, 0, 0), (.iinc 5 1, 3, 0, 0), (.goto (-43), 3, 3, 0)] 3 [some (.ref (79)), some (.int (x1)), some (.ref (r2)), some (.int (x3)), some (.int (x4)), some (.int (x5 + 1))] [] (q_wI w r2 (Int32.toNatClampNeg x5) (w.1 115 (Int32.toNatClampNeg (x1 + x5)))) [q_id 116 12 79, q_id 116 14 115, vp_in (x1 + x5) 3216, q_id 116 14 r2, vp_in x5 (q_sh r2).2] (by decide +kernel) (by refine qt_aload_n (r := r2) rfl ?_; refine qt_iload (x := x5) rfl ?_; refine qt_aload_n (r := 79) rfl ?_; refine qt_getR (r := 115) rfl rfl ?_; refine qt_iload_n (x := x1) rfl ?_; refine qt_iload (x := x5) rfl ?_; refine qt_iadd ?_; refine qt_iald ?_; refine qt_iast ?_; refine qt_iinc (x := x5) (L' := [some (.ref (79)), some (.int (x1)), some (.ref (r2)), some (.int (x3)), some (.int (x4)), some (.int (x5 + 1))]) rfl qc_1 rfl ?_; refine qt_goto ?_; exact qt_z rfl rfl rfl rfl rfl) ⟨(q_id_of rfl), (q_id_of rfl), ho2, ho3, ho4⟩ ?_
      exact h
    · replace h := h.2 hc
      obtain ⟨ho6, h⟩ := h
      obtain ⟨ho7, h⟩ := h
      obtain ⟨ho8, h⟩ := h
      replace h := h _ rfl
      refine s_blk [(.aload_n 0, 1, 0, 0), (.getfield 123, 3, 12, 65), (.iload_n 1, 1, 0, 0), (.iload 5, 2, 0, 0), (.iadd, 1, 0, 0), (.aload_n 2, 1, 0, 0), (.iload 5, 2, 0, 0), (.iaload, 1, 0, 0), (.iastore, 1, 0, 0), (.goto 16, 3, 43, 0), (.iinc 5 1, 3, 0, 0), (.goto (-43), 3, 3, 0)] 3 [some (.ref (79)), some (.int (x1)), some (.ref (r2)), some (.int (x3)), some (.int (x4)), some (.int (x5 + 1))] [] (q_wI w 115 (Int32.toNatClampNeg (x1 + x5)) (w.1 r2 (Int32.toNatClampNeg x5))) [q_id 116 12 79, q_id 116 14 r2, vp_in x5 (q_sh r2).2, q_id 116 14 115, vp_in (x1 + x5) 3216] (by decide +kernel) (by refine qt_aload_n (r := 79) rfl ?_; refine qt_getR (r := 115) rfl rfl ?_; refine qt_iload_n (x := x1) rfl ?_; refine qt_iload (x := x5) rfl ?_; refine qt_iadd ?_; refine qt_aload_n (r := r2) rfl ?_; refine qt_iload (x := x5) rfl ?_; refine qt_iald ?_; refine qt_iast ?_; refine qt_goto ?_; refine qt_iinc (x := x5) (L' := [some (.ref (79)), some (.int (x1)), some (.ref (r2)), some (.int (x3)), some (.int (x4)), some (.int (x5 + 1))]) rfl qc_1 rfl ?_; refine qt_goto ?_; exact qt_z rfl rfl rfl rfl rfl) ⟨(q_id_of rfl), ho6, ho7, (q_id_of rfl), ho8⟩ ?_
      exact h
theorem eX12_keepsRow {d : Nat} {x1 : Int32} {r2 : Nat} {x3 : Int32} {x4 : Int32} {w : q_Sm} {Q : s_Po} {X : s_Xo} (h : vX12_keepsRow_0 d x1 r2 x3 x4 w Q X) : s_Ev (d + 1) 0 mX12_keepsRow w [.ref (79), .int (x1), .ref (r2), .int (x3), .int (x4)] Q X := s_of (by decide) rfl (Nat.le_of_ble_eq_true rfl) (xX12_keepsRow_0 h)
def vX12_keepsAll_0 (d : Nat) (x1 : Int32) (x2 : Int32) (w : q_Sm) (Q : s_Po) (X : s_Xo) : Prop := s_EvI d 0 mX12_keepsRow w [.ref (79), .int (1072 * x1), .ref (104), .int (63), .int (x2)] (fun v1 u2 => s_EvI d 0 mX12_keepsRow u2 [.ref (79), .int (v1), .ref (106), .int (1008), .int (x2)] (fun v3 u4 => ((x2 = 0) → (vp_in v3 3216) ∧ ∀ w_5 : q_Sm, w_5 = q_wI u4 79 45 (u4.1 115 (Int32.toNatClampNeg v3)) → Q none w_5) ∧ (¬ (x2 = 0) → (vp_in v3 3216) ∧ ∀ w_7 : q_Sm, w_7 = q_wI u4 115 (Int32.toNatClampNeg v3) (u4.1 79 45) → Q none w_7)) X) X
theorem xX12_keepsAll_0 {d : Nat} {x1 : Int32} {x2 : Int32} {w : q_Sm} {Q : s_Po} {X : s_Xo} (h : vX12_keepsAll_0 d x1 x2 w Q X) : s_Ex (d + 1) 0 mX12_keepsAll 0 [some (.ref (79)), some (.int (x1)), some (.int (x2)), none] [] w Q X := by
  unfold vX12_keepsAll_0 at h
  refine s_blk [(.aload_n 0, 1, 0, 0), (.sipush 1072, 3, 0, 0), (.iload_n 1, 1, 0, 0), (.imul, 1, 0, 0), (.aload_n 0, 1, 0, 0), (.getfield 89, 3, 12, 50), (.bipush 63, 2, 0, 0), (.iload_n 2, 1, 0, 0)] 13 [some (.ref (79)), some (.int (x1)), some (.int (x2)), none] [.int (x2), .int (63), .ref (104), .int (1072 * x1), .ref (79)] w [q_id 116 12 79] (by decide +kernel) (by refine qt_aload_n (r := 79) rfl ?_; refine qt_sipush qs_1072 ?_; refine qt_iload_n (x := x1) rfl ?_; refine qt_imul ?_; refine qt_aload_n (r := 79) rfl ?_; refine qt_getR (r := 104) rfl rfl ?_; refine qt_bipush qb_63 ?_; refine qt_iload_n (x := x2) rfl ?_; exact qt_z rfl rfl rfl rfl rfl) (q_id_of rfl) ?_
  refine s_callV (a := 0) (a' := 0) (As := [.int (1072 * x1), .ref (104), .int (63), .int (x2)]) (id := 79) (st := []) kX12_keepsRow l_12_524 (by decide +kernel) (q_id_of rfl) rfl (Nat.le_of_ble_eq_true rfl) (s_mono h (s_I_of (fun v1 u2 h => ?_)) (fun _ _ h9 => h9))
  show s_Ex (d + 1) 0 mX12_keepsAll 16 [some (.ref (79)), some (.int (x1)), some (.int (x2)), none] [.int (v1)] u2 Q X
  refine s_blk [(.istore_n 3, 1, 0, 0), (.aload_n 0, 1, 0, 0), (.iload_n 3, 1, 0, 0), (.aload_n 0, 1, 0, 0), (.getfield 95, 3, 12, 52), (.sipush 1008, 3, 0, 0), (.iload_n 2, 1, 0, 0)] 27 [some (.ref (79)), some (.int (x1)), some (.int (x2)), some (.int (v1))] [.int (x2), .int (1008), .ref (106), .int (v1), .ref (79)] u2 [q_id 116 12 79] (by decide +kernel) (by refine qt_istore_n (L' := [some (.ref (79)), some (.int (x1)), some (.int (x2)), some (.int (v1))]) rfl ?_; refine qt_aload_n (r := 79) rfl ?_; refine qt_iload_n (x := v1) rfl ?_; refine qt_aload_n (r := 79) rfl ?_; refine qt_getR (r := 106) rfl rfl ?_; refine qt_sipush qs_1008 ?_; refine qt_iload_n (x := x2) rfl ?_; exact qt_z rfl rfl rfl rfl rfl) (q_id_of rfl) ?_
  refine s_callV (a := 0) (a' := 0) (As := [.int (v1), .ref (106), .int (1008), .int (x2)]) (id := 79) (st := []) kX12_keepsRow l_12_524 (by decide +kernel) (q_id_of rfl) rfl (Nat.le_of_ble_eq_true rfl) (s_mono h (s_I_of (fun v3 u4 h => ?_)) (fun _ _ h9 => h9))
  show s_Ex (d + 1) 0 mX12_keepsAll 30 [some (.ref (79)), some (.int (x1)), some (.int (x2)), some (.int (v1))] [.int (v3)] u4 Q X
  refine s_blk [(.istore_n 3, 1, 0, 0), (.iload_n 2, 1, 0, 0)] 32 [some (.ref (79)), some (.int (x1)), some (.int (x2)), some (.int (v3))] [.int (x2)] u4 [] (by decide +kernel) (by refine qt_istore_n (L' := [some (.ref (79)), some (.int (x1)), some (.int (x2)), some (.int (v3))]) rfl ?_; refine qt_iload_n (x := x2) rfl ?_; exact qt_z rfl rfl rfl rfl rfl) trivial ?_
  refine s_if (cd := .eq) (off := 16) 48 (by decide +kernel) (by decide) (fun hc => ?_) (fun hc => ?_)
  · replace h := h.1 hc
    obtain ⟨ho6, h⟩ := h
    replace h := h _ rfl
    refine s_blk [(.aload_n 0, 1, 0, 0), (.aload_n 0, 1, 0, 0), (.getfield 123, 3, 12, 65), (.iload_n 3, 1, 0, 0), (.iaload, 1, 0, 0), (.putfield 218, 3, 12, 45)] 58 [some (.ref (79)), some (.int (x1)), some (.int (x2)), some (.int (v3))] [] (q_wI u4 79 45 (u4.1 115 (Int32.toNatClampNeg v3))) [q_id 116 12 79, q_id 116 14 115, vp_in v3 3216, q_id 116 12 79] (by decide +kernel) (by refine qt_aload_n (r := 79) rfl ?_; refine qt_aload_n (r := 79) rfl ?_; refine qt_getR (r := 115) rfl rfl ?_; refine qt_iload_n (x := v3) rfl ?_; refine qt_iald ?_; refine qt_putI rfl ?_; exact qt_z rfl rfl rfl rfl rfl) ⟨(q_id_of rfl), (q_id_of rfl), ho6, (q_id_of rfl)⟩ ?_
    exact s_retV (by decide +kernel) rfl h
  · replace h := h.2 hc
    obtain ⟨ho8, h⟩ := h
    replace h := h _ rfl
    refine s_blk [(.aload_n 0, 1, 0, 0), (.getfield 123, 3, 12, 65), (.iload_n 3, 1, 0, 0), (.aload_n 0, 1, 0, 0), (.getfield 218, 3, 12, 45), (.iastore, 1, 0, 0), (.goto 13, 3, 58, 0)] 58 [some (.ref (79)), some (.int (x1)), some (.int (x2)), some (.int (v3))] [] (q_wI u4 115 (Int32.toNatClampNeg v3) (u4.1 79 45)) [q_id 116 12 79, q_id 116 12 79, q_id 116 14 115, vp_in v3 3216] (by decide +kernel) (by refine qt_aload_n (r := 79) rfl ?_; refine qt_getR (r := 115) rfl rfl ?_; refine qt_iload_n (x := v3) rfl ?_; refine qt_aload_n (r := 79) rfl ?_; refine qt_getI rfl ?_; refine qt_iast ?_; refine qt_goto ?_; exact qt_z rfl rfl rfl rfl rfl) ⟨(q_id_of rfl), (q_id_of rfl), (q_id_of rfl), ho8⟩ ?_
    exact s_retV (by decide +kernel) rfl h
theorem eX12_keepsAll {d : Nat} {x1 : Int32} {x2 : Int32} {w : q_Sm} {Q : s_Po} {X : s_Xo} (h : vX12_keepsAll_0 d x1 x2 w Q X) : s_Ev (d + 1) 0 mX12_keepsAll w [.ref (79), .int (x1), .int (x2)] Q X := s_of (by decide) rfl (Nat.le_of_ble_eq_true rfl) (xX12_keepsAll_0 h)
def vX12_image_0 (d : Nat)  (w : q_Sm) (Q : s_Po) (X : s_Xo) : Prop := ∀ w_1 : q_Sm, w_1 = q_wI w 79 0 0 → ((¬ (w_1.1 79 66) = 3) → s_EvV d 0 mX12_keepsAll w_1 [.ref (79), .int (w_1.1 79 66), .int (1)] (fun u3 => ∀ w_4 : q_Sm, w_4 = q_wI u3 79 66 ((u3.1 79 66) + 1) → Q (some (.int (w_4.1 79 66))) w_4) X) ∧ (¬ (¬ (w_1.1 79 66) = 3) → Q (some (.int (-1))) w_1)
theorem xX12_image_0 {d : Nat}  {w : q_Sm} {Q : s_Po} {X : s_Xo} (h : vX12_image_0 d  w Q X) : s_Ex (d + 1) 0 mX12_image 0 [some (.ref (79))] [] w Q X := by
  unfold vX12_image_0 at h
  replace h := h _ rfl
  refine s_blk [(.aload_n 0, 1, 0, 0), (.iconst 0, 1, 0, 0), (.putfield 3, 3, 12, 0), (.aload_n 0, 1, 0, 0), (.getfield 221, 3, 12, 66), (.iconst 3, 1, 0, 0)] 10 [some (.ref (79))] [.int (3), .int ((q_wI w 79 0 0).1 79 66)] (q_wI w 79 0 0) [q_id 116 12 79, q_id 116 12 79] (by decide +kernel) (by refine qt_aload_n (r := 79) rfl ?_; refine qt_iconst qc_0 ?_; refine qt_putI rfl ?_; refine qt_aload_n (r := 79) rfl ?_; refine qt_getI rfl ?_; refine qt_iconst qc_3 ?_; exact qt_z rfl rfl rfl rfl rfl) ⟨(q_id_of rfl), (q_id_of rfl)⟩ ?_
  refine s_icmp (cd := .ne) (off := 5) 15 (by decide +kernel) (by decide) (fun hc => ?_) (fun hc => ?_)
  · replace h := h.1 hc
    refine s_blk [(.aload_n 0, 1, 0, 0), (.aload_n 0, 1, 0, 0), (.getfield 221, 3, 12, 66), (.iconst 1, 1, 0, 0)] 21 [some (.ref (79))] [.int (1), .int ((q_wI w 79 0 0).1 79 66), .ref (79)] (q_wI w 79 0 0) [q_id 116 12 79] (by decide +kernel) (by refine qt_aload_n (r := 79) rfl ?_; refine qt_aload_n (r := 79) rfl ?_; refine qt_getI rfl ?_; refine qt_iconst qc_1 ?_; exact qt_z rfl rfl rfl rfl rfl) (q_id_of rfl) ?_
    refine s_callV (a := 0) (a' := 0) (As := [.int ((q_wI w 79 0 0).1 79 66), .int (1)]) (id := 79) (st := []) kX12_keepsAll l_12_528 (by decide +kernel) (q_id_of rfl) rfl (Nat.le_of_ble_eq_true rfl) (s_mono h (s_V_of (fun u3 h => ?_)) (fun _ _ h9 => h9))
    show s_Ex (d + 1) 0 mX12_image 24 [some (.ref (79))] [] u3 Q X
    replace h := h _ rfl
    refine s_blk [(.aload_n 0, 1, 0, 0), (.dup, 1, 0, 0), (.getfield 221, 3, 12, 66), (.iconst 1, 1, 0, 0), (.iadd, 1, 0, 0), (.putfield 221, 3, 12, 66), (.aload_n 0, 1, 0, 0), (.getfield 221, 3, 12, 66)] 38 [some (.ref (79))] [.int ((q_wI u3 79 66 ((u3.1 79 66) + 1)).1 79 66)] (q_wI u3 79 66 ((u3.1 79 66) + 1)) [q_id 116 12 79, q_id 116 12 79, q_id 116 12 79] (by decide +kernel) (by refine qt_aload_n (r := 79) rfl ?_; refine qt_dupR ?_; refine qt_getI rfl ?_; refine qt_iconst qc_1 ?_; refine qt_iadd ?_; refine qt_putI rfl ?_; refine qt_aload_n (r := 79) rfl ?_; refine qt_getI rfl ?_; exact qt_z rfl rfl rfl rfl rfl) ⟨(q_id_of rfl), (q_id_of rfl), (q_id_of rfl)⟩ ?_
    exact s_retI .int (by decide +kernel) rfl rfl h
  · replace h := h.2 hc
    refine s_blk [(.iconst (-1), 1, 0, 0)] 14 [some (.ref (79))] [.int (-1)] (q_wI w 79 0 0) [] (by decide +kernel) (by refine qt_iconst qc_m1 ?_; exact qt_z rfl rfl rfl rfl rfl) trivial ?_
    exact s_retI .int (by decide +kernel) rfl rfl h
theorem eX12_image {d : Nat}  {w : q_Sm} {Q : s_Po} {X : s_Xo} (h : vX12_image_0 d  w Q X) : s_Ev (d + 1) 0 mX12_image w [.ref (79)] Q X := s_of (by decide) rfl (Nat.le_of_ble_eq_true rfl) (xX12_image_0 h)
def vX12_restore_0 (d : Nat)  (w : q_Sm) (Q : s_Po) (X : s_Xo) : Prop := ∀ w_1 : q_Sm, w_1 = q_wI w 79 0 0 → ((¬ (w_1.1 79 66) = 0) → ∀ w_2 : q_Sm, w_2 = q_wI w_1 79 66 ((w_1.1 79 66) - 1) → s_EvV d 0 mX12_keepsAll w_2 [.ref (79), .int (w_2.1 79 66), .int (0)] (fun u4 => ∀ w_5 : q_Sm, w_5 = q_wI u4 79 46 0 → Q (some (.int (w_5.1 79 66))) w_5) X) ∧ (¬ (¬ (w_1.1 79 66) = 0) → Q (some (.int (-1))) w_1)
theorem xX12_restore_0 {d : Nat}  {w : q_Sm} {Q : s_Po} {X : s_Xo} (h : vX12_restore_0 d  w Q X) : s_Ex (d + 1) 0 mX12_restore 0 [some (.ref (79))] [] w Q X := by
  unfold vX12_restore_0 at h
  replace h := h _ rfl
  refine s_blk [(.aload_n 0, 1, 0, 0), (.iconst 0, 1, 0, 0), (.putfield 3, 3, 12, 0), (.aload_n 0, 1, 0, 0), (.getfield 221, 3, 12, 66)] 9 [some (.ref (79))] [.int ((q_wI w 79 0 0).1 79 66)] (q_wI w 79 0 0) [q_id 116 12 79, q_id 116 12 79] (by decide +kernel) (by refine qt_aload_n (r := 79) rfl ?_; refine qt_iconst qc_0 ?_; refine qt_putI rfl ?_; refine qt_aload_n (r := 79) rfl ?_; refine qt_getI rfl ?_; exact qt_z rfl rfl rfl rfl rfl) ⟨(q_id_of rfl), (q_id_of rfl)⟩ ?_
  refine s_if (cd := .ne) (off := 5) 14 (by decide +kernel) (by decide) (fun hc => ?_) (fun hc => ?_)
  · replace h := h.1 hc
    replace h := h _ rfl
    refine s_blk [(.aload_n 0, 1, 0, 0), (.dup, 1, 0, 0), (.getfield 221, 3, 12, 66), (.iconst 1, 1, 0, 0), (.isub, 1, 0, 0), (.putfield 221, 3, 12, 66), (.aload_n 0, 1, 0, 0), (.aload_n 0, 1, 0, 0), (.getfield 221, 3, 12, 66), (.iconst 0, 1, 0, 0)] 30 [some (.ref (79))] [.int (0), .int ((q_wI (q_wI w 79 0 0) 79 66 (((q_wI w 79 0 0).1 79 66) - 1)).1 79 66), .ref (79)] (q_wI (q_wI w 79 0 0) 79 66 (((q_wI w 79 0 0).1 79 66) - 1)) [q_id 116 12 79, q_id 116 12 79, q_id 116 12 79] (by decide +kernel) (by refine qt_aload_n (r := 79) rfl ?_; refine qt_dupR ?_; refine qt_getI rfl ?_; refine qt_iconst qc_1 ?_; refine qt_isub ?_; refine qt_putI rfl ?_; refine qt_aload_n (r := 79) rfl ?_; refine qt_aload_n (r := 79) rfl ?_; refine qt_getI rfl ?_; refine qt_iconst qc_0 ?_; exact qt_z rfl rfl rfl rfl rfl) ⟨(q_id_of rfl), (q_id_of rfl), (q_id_of rfl)⟩ ?_
    refine s_callV (a := 0) (a' := 0) (As := [.int ((q_wI (q_wI w 79 0 0) 79 66 (((q_wI w 79 0 0).1 79 66) - 1)).1 79 66), .int (0)]) (id := 79) (st := []) kX12_keepsAll l_12_528 (by decide +kernel) (q_id_of rfl) rfl (Nat.le_of_ble_eq_true rfl) (s_mono h (s_V_of (fun u4 h => ?_)) (fun _ _ h9 => h9))
    show s_Ex (d + 1) 0 mX12_restore 33 [some (.ref (79))] [] u4 Q X
    replace h := h _ rfl
    refine s_blk [(.aload_n 0, 1, 0, 0), (.iconst 0, 1, 0, 0), (.putfield 224, 3, 12, 46), (.aload_n 0, 1, 0, 0), (.getfield 221, 3, 12, 66)] 42 [some (.ref (79))] [.int ((q_wI u4 79 46 0).1 79 66)] (q_wI u4 79 46 0) [q_id 116 12 79, q_id 116 12 79] (by decide +kernel) (by refine qt_aload_n (r := 79) rfl ?_; refine qt_iconst qc_0 ?_; refine qt_putI rfl ?_; refine qt_aload_n (r := 79) rfl ?_; refine qt_getI rfl ?_; exact qt_z rfl rfl rfl rfl rfl) ⟨(q_id_of rfl), (q_id_of rfl)⟩ ?_
    exact s_retI .int (by decide +kernel) rfl rfl h
  · replace h := h.2 hc
    refine s_blk [(.iconst (-1), 1, 0, 0)] 13 [some (.ref (79))] [.int (-1)] (q_wI w 79 0 0) [] (by decide +kernel) (by refine qt_iconst qc_m1 ?_; exact qt_z rfl rfl rfl rfl rfl) trivial ?_
    exact s_retI .int (by decide +kernel) rfl rfl h
theorem eX12_restore {d : Nat}  {w : q_Sm} {Q : s_Po} {X : s_Xo} (h : vX12_restore_0 d  w Q X) : s_Ev (d + 1) 0 mX12_restore w [.ref (79)] Q X := s_of (by decide) rfl (Nat.le_of_ble_eq_true rfl) (xX12_restore_0 h)
def vX12_status_0 (d : Nat) (x1 : Int32) (w : q_Sm) (Q : s_Po) (X : s_Xo) : Prop := ∀ w_1 : q_Sm, w_1 = q_wI w 79 0 0 → s_EvI d 0 mX12_within w_1 [.int (x1), .int (0), .int (1)] (fun v2 u3 => ((v2 = 0) → Q (some (.int (-1))) u3) ∧ (¬ (v2 = 0) → (vp_in x1 2) ∧ Q (some (.int (u3.1 80 (Int32.toNatClampNeg x1)))) u3)) X
theorem xX12_status_0 {d : Nat} {x1 : Int32} {w : q_Sm} {Q : s_Po} {X : s_Xo} (h : vX12_status_0 d x1 w Q X) : s_Ex (d + 1) 0 mX12_status 0 [some (.ref (79)), some (.int (x1))] [] w Q X := by
  unfold vX12_status_0 at h
  replace h := h _ rfl
  refine s_blk [(.aload_n 0, 1, 0, 0), (.iconst 0, 1, 0, 0), (.putfield 3, 3, 12, 0), (.iload_n 1, 1, 0, 0), (.iconst 0, 1, 0, 0), (.iconst 1, 1, 0, 0)] 8 [some (.ref (79)), some (.int (x1))] [.int (1), .int (0), .int (x1)] (q_wI w 79 0 0) [q_id 116 12 79] (by decide +kernel) (by refine qt_aload_n (r := 79) rfl ?_; refine qt_iconst qc_0 ?_; refine qt_putI rfl ?_; refine qt_iload_n (x := x1) rfl ?_; refine qt_iconst qc_0 ?_; refine qt_iconst qc_1 ?_; exact qt_z rfl rfl rfl rfl rfl) (q_id_of rfl) ?_
  refine s_callS (a := 0) (a' := 0) (As := [.int (x1), .int (0), .int (1)]) (st := []) kX12_within l_12_410 (by decide +kernel) rfl (Nat.le_of_ble_eq_true rfl) (s_mono h (s_I_of (fun v2 u3 h => ?_)) (fun _ _ h9 => h9))
  show s_Ex (d + 1) 0 mX12_status 11 [some (.ref (79)), some (.int (x1))] [.int (v2)] u3 Q X
  refine s_if (cd := .eq) (off := 12) 23 (by decide +kernel) (by decide) (fun hc => ?_) (fun hc => ?_)
  · replace h := h.1 hc
    refine s_blk [(.iconst (-1), 1, 0, 0)] 24 [some (.ref (79)), some (.int (x1))] [.int (-1)] u3 [] (by decide +kernel) (by refine qt_iconst qc_m1 ?_; exact qt_z rfl rfl rfl rfl rfl) trivial ?_
    exact s_retI .int (by decide +kernel) rfl rfl h
  · replace h := h.2 hc
    obtain ⟨ho4, h⟩ := h
    refine s_blk [(.aload_n 0, 1, 0, 0), (.getfield 7, 3, 12, 1), (.iload_n 1, 1, 0, 0), (.iaload, 1, 0, 0), (.goto 4, 3, 24, 0)] 24 [some (.ref (79)), some (.int (x1))] [.int (u3.1 80 (Int32.toNatClampNeg x1))] u3 [q_id 116 12 79, q_id 116 14 80, vp_in x1 2] (by decide +kernel) (by refine qt_aload_n (r := 79) rfl ?_; refine qt_getR (r := 80) rfl rfl ?_; refine qt_iload_n (x := x1) rfl ?_; refine qt_iald ?_; refine qt_goto ?_; exact qt_z rfl rfl rfl rfl rfl) ⟨(q_id_of rfl), (q_id_of rfl), ho4⟩ ?_
    exact s_retI .int (by decide +kernel) rfl rfl h
theorem eX12_status {d : Nat} {x1 : Int32} {w : q_Sm} {Q : s_Po} {X : s_Xo} (h : vX12_status_0 d x1 w Q X) : s_Ev (d + 1) 0 mX12_status w [.ref (79), .int (x1)] Q X := s_of (by decide) rfl (Nat.le_of_ble_eq_true rfl) (xX12_status_0 h)
def vX12_count_0 (d : Nat) (x1 : Int32) (w : q_Sm) (Q : s_Po) (X : s_Xo) : Prop := ∀ w_1 : q_Sm, w_1 = q_wI w 79 0 0 → ((¬ x1 = 0) → ((¬ x1 = 1) → ((¬ x1 = 2) → Q (some (.int (-1))) w_1) ∧ (¬ (¬ x1 = 2) → Q (some (.int (w_1.1 79 45))) w_1)) ∧ (¬ (¬ x1 = 1) → Q (some (.int (w_1.1 79 2))) w_1)) ∧ (¬ (¬ x1 = 0) → Q (some (.int (w_1.1 79 66))) w_1)
theorem xX12_count_0 {d : Nat} {x1 : Int32} {w : q_Sm} {Q : s_Po} {X : s_Xo} (h : vX12_count_0 d x1 w Q X) : s_Ex (d + 1) 0 mX12_count 0 [some (.ref (79)), some (.int (x1))] [] w Q X := by
  unfold vX12_count_0 at h
  replace h := h _ rfl
  refine s_blk [(.aload_n 0, 1, 0, 0), (.iconst 0, 1, 0, 0), (.putfield 3, 3, 12, 0), (.iload_n 1, 1, 0, 0)] 6 [some (.ref (79)), some (.int (x1))] [.int (x1)] (q_wI w 79 0 0) [q_id 116 12 79] (by decide +kernel) (by refine qt_aload_n (r := 79) rfl ?_; refine qt_iconst qc_0 ?_; refine qt_putI rfl ?_; refine qt_iload_n (x := x1) rfl ?_; exact qt_z rfl rfl rfl rfl rfl) (q_id_of rfl) ?_
  refine s_if (cd := .ne) (off := 10) 16 (by decide +kernel) (by decide) (fun hc => ?_) (fun hc => ?_)
  · replace h := h.1 hc
    refine s_blk [(.iload_n 1, 1, 0, 0), (.iconst 1, 1, 0, 0)] 18 [some (.ref (79)), some (.int (x1))] [.int (1), .int (x1)] (q_wI w 79 0 0) [] (by decide +kernel) (by refine qt_iload_n (x := x1) rfl ?_; refine qt_iconst qc_1 ?_; exact qt_z rfl rfl rfl rfl rfl) trivial ?_
    refine s_icmp (cd := .ne) (off := 10) 28 (by decide +kernel) (by decide) (fun hc => ?_) (fun hc => ?_)
    · replace h := h.1 hc
      refine s_blk [(.iload_n 1, 1, 0, 0), (.iconst 2, 1, 0, 0)] 30 [some (.ref (79)), some (.int (x1))] [.int (2), .int (x1)] (q_wI w 79 0 0) [] (by decide +kernel) (by refine qt_iload_n (x := x1) rfl ?_; refine qt_iconst qc_2 ?_; exact qt_z rfl rfl rfl rfl rfl) trivial ?_
      refine s_icmp (cd := .ne) (off := 10) 40 (by decide +kernel) (by decide) (fun hc => ?_) (fun hc => ?_)
      · replace h := h.1 hc
        refine s_blk [(.iconst (-1), 1, 0, 0)] 41 [some (.ref (79)), some (.int (x1))] [.int (-1)] (q_wI w 79 0 0) [] (by decide +kernel) (by refine qt_iconst qc_m1 ?_; exact qt_z rfl rfl rfl rfl rfl) trivial ?_
        exact s_retI .int (by decide +kernel) rfl rfl h
      · replace h := h.2 hc
        refine s_blk [(.aload_n 0, 1, 0, 0), (.getfield 218, 3, 12, 45), (.goto 4, 3, 41, 0)] 41 [some (.ref (79)), some (.int (x1))] [.int ((q_wI w 79 0 0).1 79 45)] (q_wI w 79 0 0) [q_id 116 12 79] (by decide +kernel) (by refine qt_aload_n (r := 79) rfl ?_; refine qt_getI rfl ?_; refine qt_goto ?_; exact qt_z rfl rfl rfl rfl rfl) (q_id_of rfl) ?_
        exact s_retI .int (by decide +kernel) rfl rfl h
    · replace h := h.2 hc
      refine s_blk [(.aload_n 0, 1, 0, 0), (.getfield 132, 3, 12, 2), (.goto 16, 3, 41, 0)] 41 [some (.ref (79)), some (.int (x1))] [.int ((q_wI w 79 0 0).1 79 2)] (q_wI w 79 0 0) [q_id 116 12 79] (by decide +kernel) (by refine qt_aload_n (r := 79) rfl ?_; refine qt_getI rfl ?_; refine qt_goto ?_; exact qt_z rfl rfl rfl rfl rfl) (q_id_of rfl) ?_
      exact s_retI .int (by decide +kernel) rfl rfl h
  · replace h := h.2 hc
    refine s_blk [(.aload_n 0, 1, 0, 0), (.getfield 221, 3, 12, 66), (.goto 28, 3, 41, 0)] 41 [some (.ref (79)), some (.int (x1))] [.int ((q_wI w 79 0 0).1 79 66)] (q_wI w 79 0 0) [q_id 116 12 79] (by decide +kernel) (by refine qt_aload_n (r := 79) rfl ?_; refine qt_getI rfl ?_; refine qt_goto ?_; exact qt_z rfl rfl rfl rfl rfl) (q_id_of rfl) ?_
    exact s_retI .int (by decide +kernel) rfl rfl h
theorem eX12_count {d : Nat} {x1 : Int32} {w : q_Sm} {Q : s_Po} {X : s_Xo} (h : vX12_count_0 d x1 w Q X) : s_Ev (d + 1) 0 mX12_count w [.ref (79), .int (x1)] Q X := s_of (by decide) rfl (Nat.le_of_ble_eq_true rfl) (xX12_count_0 h)
def vX10_size_0 (d : Nat)  (w : q_Sm) (Q : s_Po) (X : s_Xo) : Prop := Q (some (.int (w.1 2 1))) w
theorem xX10_size_0 {d : Nat}  {w : q_Sm} {Q : s_Po} {X : s_Xo} (h : vX10_size_0 d  w Q X) : s_Ex (d + 1) 0 mX10_size 0 [some (.ref (2))] [] w Q X := by
  unfold vX10_size_0 at h
  refine s_blk [(.aload_n 0, 1, 0, 0), (.getfield 19, 3, 10, 1)] 4 [some (.ref (2))] [.int (w.1 2 1)] w [q_id 116 10 2] (by decide +kernel) (by refine qt_aload_n (r := 2) rfl ?_; refine qt_getI rfl ?_; exact qt_z rfl rfl rfl rfl rfl) (q_id_of rfl) ?_
  exact s_retI .int (by decide +kernel) rfl rfl h
theorem eX10_size {d : Nat}  {w : q_Sm} {Q : s_Po} {X : s_Xo} (h : vX10_size_0 d  w Q X) : s_Ev (d + 1) 0 mX10_size w [.ref (2)] Q X := s_of (by decide) rfl (Nat.le_of_ble_eq_true rfl) (xX10_size_0 h)
def vX10_put_0 (d : Nat) (x1 : Int32) (w : q_Sm) (Q : s_Po) (X : s_Xo) : Prop := s_Ex (d + 1) 0 mX10_put 3 [some (.ref (2)), some (.int (x1)), some (.int (24))] [] w Q X
def vX10_put_3 (d : Nat) (x1 : Int32) (x2 : Int32) (w : q_Sm) (Q : s_Po) (X : s_Xo) : Prop := ((x2 < 0) → Q none w) ∧ (¬ (x2 < 0) → ((600 ≤ (w.1 2 1)) → Q none w) ∧ (¬ (600 ≤ (w.1 2 1)) → (vp_in (w.1 2 1) 600) ∧ ∀ w_1 : q_Sm, w_1 = q_wI w 3 (Int32.toNatClampNeg (w.1 2 1)) (vp_nar (if 13 = 13 then .byte else .boolean) ((Int32.toInt8 ((x1.toUInt32 >>> (x2.toUInt32 &&& Int32.toUInt32 31)).toInt32)).toInt32)) → ∀ w_2 : q_Sm, w_2 = q_wI w_1 2 1 ((w_1.1 2 1) + 1) → s_Ex (d + 1) 0 mX10_put 3 [some (.ref (2)), some (.int (x1)), some (.int (x2 + (-8)))] [] w_2 Q X))
theorem xX10_put_0 {d : Nat} {x1 : Int32} {w : q_Sm} {Q : s_Po} {X : s_Xo} (h : vX10_put_0 d x1 w Q X) : s_Ex (d + 1) 0 mX10_put 0 [some (.ref (2)), some (.int (x1)), none] [] w Q X := by
  unfold vX10_put_0 at h
  refine s_blk [(.bipush 24, 2, 0, 0), (.istore_n 2, 1, 0, 0)] 3 [some (.ref (2)), some (.int (x1)), some (.int (24))] [] w [] (by decide +kernel) (by refine qt_bipush qb_24 ?_; refine qt_istore_n (L' := [some (.ref (2)), some (.int (x1)), some (.int (24))]) rfl ?_; exact qt_z rfl rfl rfl rfl rfl) trivial ?_
  exact h
theorem xX10_put_3 {d : Nat} {x1 : Int32} {x2 : Int32} {w : q_Sm} {Q : s_Po} {X : s_Xo} (h : vX10_put_3 d x1 x2 w Q X) : s_Ex (d + 1) 0 mX10_put 3 [some (.ref (2)), some (.int (x1)), some (.int (x2))] [] w Q X := by
  unfold vX10_put_3 at h
  refine s_blk [(.iload_n 2, 1, 0, 0)] 4 [some (.ref (2)), some (.int (x1)), some (.int (x2))] [.int (x2)] w [] (by decide +kernel) (by refine qt_iload_n (x := x2) rfl ?_; exact qt_z rfl rfl rfl rfl rfl) trivial ?_
  refine s_if (cd := .lt) (off := 42) 46 (by decide +kernel) (by decide) (fun hc => ?_) (fun hc => ?_)
  · replace h := h.1 hc
    exact s_retV (by decide +kernel) rfl h
  · replace h := h.2 hc
    refine s_blk [(.aload_n 0, 1, 0, 0), (.getfield 19, 3, 10, 1), (.sipush 600, 3, 0, 0)] 14 [some (.ref (2)), some (.int (x1)), some (.int (x2))] [.int (600), .int (w.1 2 1)] w [q_id 116 10 2] (by decide +kernel) (by refine qt_aload_n (r := 2) rfl ?_; refine qt_getI rfl ?_; refine qt_sipush qs_600 ?_; exact qt_z rfl rfl rfl rfl rfl) (q_id_of rfl) ?_
    refine s_icmp (cd := .ge) (off := 32) 46 (by decide +kernel) (by decide) (fun hc => ?_) (fun hc => ?_)
    · replace h := h.1 hc
      exact s_retV (by decide +kernel) rfl h
    · replace h := h.2 hc
      obtain ⟨ho3, h⟩ := h
      replace h := h _ rfl
      replace h := h _ rfl
      refine s_blk [(.aload_n 0, 1, 0, 0), (.getfield 9, 3, 10, 0), (.aload_n 0, 1, 0, 0), (.getfield 19, 3, 10, 1), (.iload_n 1, 1, 0, 0), (.iload_n 2, 1, 0, 0), (.iushr, 1, 0, 0), (.i2b, 1, 0, 0), (.bastore, 1, 13, 0), (.aload_n 0, 1, 0, 0), (.dup, 1, 0, 0), (.getfield 19, 3, 10, 1), (.iconst 1, 1, 0, 0), (.iadd, 1, 0, 0), (.putfield 19, 3, 10, 1), (.iinc 2 (-8), 3, 0, 0), (.goto (-40), 3, 3, 0)] 3 [some (.ref (2)), some (.int (x1)), some (.int (x2 + (-8)))] [] (q_wI (q_wI w 3 (Int32.toNatClampNeg (w.1 2 1)) (vp_nar (if 13 = 13 then .byte else .boolean) ((Int32.toInt8 ((x1.toUInt32 >>> (x2.toUInt32 &&& Int32.toUInt32 31)).toInt32)).toInt32))) 2 1 (((q_wI w 3 (Int32.toNatClampNeg (w.1 2 1)) (vp_nar (if 13 = 13 then .byte else .boolean) ((Int32.toInt8 ((x1.toUInt32 >>> (x2.toUInt32 &&& Int32.toUInt32 31)).toInt32)).toInt32))).1 2 1) + 1)) [q_id 116 10 2, q_id 116 10 2, q_id 116 13 3, vp_in (w.1 2 1) 600, q_id 116 10 2, q_id 116 10 2] (by decide +kernel) (by refine qt_aload_n (r := 2) rfl ?_; refine qt_getR (r := 3) rfl rfl ?_; refine qt_aload_n (r := 2) rfl ?_; refine qt_getI rfl ?_; refine qt_iload_n (x := x1) rfl ?_; refine qt_iload_n (x := x2) rfl ?_; refine qt_iushr ?_; refine qt_i2b ?_; refine qt_bast ?_; refine qt_aload_n (r := 2) rfl ?_; refine qt_dupR ?_; refine qt_getI rfl ?_; refine qt_iconst qc_1 ?_; refine qt_iadd ?_; refine qt_putI rfl ?_; refine qt_iinc (x := x2) (L' := [some (.ref (2)), some (.int (x1)), some (.int (x2 + (-8)))]) rfl qc_m8 rfl ?_; refine qt_goto ?_; exact qt_z rfl rfl rfl rfl rfl) ⟨(q_id_of rfl), (q_id_of rfl), (q_id_of rfl), ho3, (q_id_of rfl), (q_id_of rfl)⟩ ?_
      exact h
theorem eX10_put {d : Nat} {x1 : Int32} {w : q_Sm} {Q : s_Po} {X : s_Xo} (h : vX10_put_0 d x1 w Q X) : s_Ev (d + 1) 0 mX10_put w [.ref (2), .int (x1)] Q X := s_of (by decide) rfl (Nat.le_of_ble_eq_true rfl) (xX10_put_0 h)
def vX10_failed_0 (d : Nat)  (w : q_Sm) (Q : s_Po) (X : s_Xo) : Prop := (((w.1 2 5) = 0) → Q (some (.int (0))) w) ∧ (¬ ((w.1 2 5) = 0) → Q (some (.int (1))) w)
theorem xX10_failed_0 {d : Nat}  {w : q_Sm} {Q : s_Po} {X : s_Xo} (h : vX10_failed_0 d  w Q X) : s_Ex (d + 1) 0 mX10_failed 0 [some (.ref (2))] [] w Q X := by
  unfold vX10_failed_0 at h
  refine s_blk [(.aload_n 0, 1, 0, 0), (.getfield 37, 3, 10, 5)] 4 [some (.ref (2))] [.int (w.1 2 5)] w [q_id 116 10 2] (by decide +kernel) (by refine qt_aload_n (r := 2) rfl ?_; refine qt_getI rfl ?_; exact qt_z rfl rfl rfl rfl rfl) (q_id_of rfl) ?_
  refine s_if (cd := .eq) (off := 7) 11 (by decide +kernel) (by decide) (fun hc => ?_) (fun hc => ?_)
  · replace h := h.1 hc
    refine s_blk [(.iconst 0, 1, 0, 0)] 12 [some (.ref (2))] [.int (0)] w [] (by decide +kernel) (by refine qt_iconst qc_0 ?_; exact qt_z rfl rfl rfl rfl rfl) trivial ?_
    exact s_retI .boolean (by decide +kernel) rfl rfl h
  · replace h := h.2 hc
    refine s_blk [(.iconst 1, 1, 0, 0), (.goto 4, 3, 12, 0)] 12 [some (.ref (2))] [.int (1)] w [] (by decide +kernel) (by refine qt_iconst qc_1 ?_; refine qt_goto ?_; exact qt_z rfl rfl rfl rfl rfl) trivial ?_
    exact s_retI .boolean (by decide +kernel) rfl rfl h
theorem eX10_failed {d : Nat}  {w : q_Sm} {Q : s_Po} {X : s_Xo} (h : vX10_failed_0 d  w Q X) : s_Ev (d + 1) 0 mX10_failed w [.ref (2)] Q X := s_of (by decide) rfl (Nat.le_of_ble_eq_true rfl) (xX10_failed_0 h)
def vX10_faultKind_0 (d : Nat)  (w : q_Sm) (Q : s_Po) (X : s_Xo) : Prop := Q (some (.int (w.1 2 5))) w
theorem xX10_faultKind_0 {d : Nat}  {w : q_Sm} {Q : s_Po} {X : s_Xo} (h : vX10_faultKind_0 d  w Q X) : s_Ex (d + 1) 0 mX10_faultKind 0 [some (.ref (2))] [] w Q X := by
  unfold vX10_faultKind_0 at h
  refine s_blk [(.aload_n 0, 1, 0, 0), (.getfield 37, 3, 10, 5)] 4 [some (.ref (2))] [.int (w.1 2 5)] w [q_id 116 10 2] (by decide +kernel) (by refine qt_aload_n (r := 2) rfl ?_; refine qt_getI rfl ?_; exact qt_z rfl rfl rfl rfl rfl) (q_id_of rfl) ?_
  exact s_retI .int (by decide +kernel) rfl rfl h
theorem eX10_faultKind {d : Nat}  {w : q_Sm} {Q : s_Po} {X : s_Xo} (h : vX10_faultKind_0 d  w Q X) : s_Ev (d + 1) 0 mX10_faultKind w [.ref (2)] Q X := s_of (by decide) rfl (Nat.le_of_ble_eq_true rfl) (xX10_faultKind_0 h)
def vX10_faultPlace_0 (d : Nat)  (w : q_Sm) (Q : s_Po) (X : s_Xo) : Prop := Q (some (.int (w.1 2 6))) w
theorem xX10_faultPlace_0 {d : Nat}  {w : q_Sm} {Q : s_Po} {X : s_Xo} (h : vX10_faultPlace_0 d  w Q X) : s_Ex (d + 1) 0 mX10_faultPlace 0 [some (.ref (2))] [] w Q X := by
  unfold vX10_faultPlace_0 at h
  refine s_blk [(.aload_n 0, 1, 0, 0), (.getfield 15, 3, 10, 6)] 4 [some (.ref (2))] [.int (w.1 2 6)] w [q_id 116 10 2] (by decide +kernel) (by refine qt_aload_n (r := 2) rfl ?_; refine qt_getI rfl ?_; exact qt_z rfl rfl rfl rfl rfl) (q_id_of rfl) ?_
  exact s_retI .int (by decide +kernel) rfl rfl h
theorem eX10_faultPlace {d : Nat}  {w : q_Sm} {Q : s_Po} {X : s_Xo} (h : vX10_faultPlace_0 d  w Q X) : s_Ev (d + 1) 0 mX10_faultPlace w [.ref (2)] Q X := s_of (by decide) rfl (Nat.le_of_ble_eq_true rfl) (xX10_faultPlace_0 h)
def vX10_blame_0 (d : Nat) (x1 : Int32) (x2 : Int32) (w : q_Sm) (Q : s_Po) (X : s_Xo) : Prop := ((¬ (w.1 2 5) = 0) → Q none w) ∧ (¬ (¬ (w.1 2 5) = 0) → ∀ w_1 : q_Sm, w_1 = q_wI w 2 5 x1 → ∀ w_2 : q_Sm, w_2 = q_wI w_1 2 6 x2 → Q none w_2)
theorem xX10_blame_0 {d : Nat} {x1 : Int32} {x2 : Int32} {w : q_Sm} {Q : s_Po} {X : s_Xo} (h : vX10_blame_0 d x1 x2 w Q X) : s_Ex (d + 1) 0 mX10_blame 0 [some (.ref (2)), some (.int (x1)), some (.int (x2))] [] w Q X := by
  unfold vX10_blame_0 at h
  refine s_blk [(.aload_n 0, 1, 0, 0), (.getfield 37, 3, 10, 5)] 4 [some (.ref (2)), some (.int (x1)), some (.int (x2))] [.int (w.1 2 5)] w [q_id 116 10 2] (by decide +kernel) (by refine qt_aload_n (r := 2) rfl ?_; refine qt_getI rfl ?_; exact qt_z rfl rfl rfl rfl rfl) (q_id_of rfl) ?_
  refine s_if (cd := .ne) (off := 13) 17 (by decide +kernel) (by decide) (fun hc => ?_) (fun hc => ?_)
  · replace h := h.1 hc
    exact s_retV (by decide +kernel) rfl h
  · replace h := h.2 hc
    replace h := h _ rfl
    replace h := h _ rfl
    refine s_blk [(.aload_n 0, 1, 0, 0), (.iload_n 1, 1, 0, 0), (.putfield 37, 3, 10, 5), (.aload_n 0, 1, 0, 0), (.iload_n 2, 1, 0, 0), (.putfield 15, 3, 10, 6)] 17 [some (.ref (2)), some (.int (x1)), some (.int (x2))] [] (q_wI (q_wI w 2 5 x1) 2 6 x2) [q_id 116 10 2, q_id 116 10 2] (by decide +kernel) (by refine qt_aload_n (r := 2) rfl ?_; refine qt_iload_n (x := x1) rfl ?_; refine qt_putI rfl ?_; refine qt_aload_n (r := 2) rfl ?_; refine qt_iload_n (x := x2) rfl ?_; refine qt_putI rfl ?_; exact qt_z rfl rfl rfl rfl rfl) ⟨(q_id_of rfl), (q_id_of rfl)⟩ ?_
    exact s_retV (by decide +kernel) rfl h
theorem eX10_blame {d : Nat} {x1 : Int32} {x2 : Int32} {w : q_Sm} {Q : s_Po} {X : s_Xo} (h : vX10_blame_0 d x1 x2 w Q X) : s_Ev (d + 1) 0 mX10_blame w [.ref (2), .int (x1), .int (x2)] Q X := s_of (by decide) rfl (Nat.le_of_ble_eq_true rfl) (xX10_blame_0 h)
def vX10_startOfLast_0 (d : Nat)  (w : q_Sm) (Q : s_Po) (X : s_Xo) : Prop := Q (some (.int (w.1 2 4))) w
theorem xX10_startOfLast_0 {d : Nat}  {w : q_Sm} {Q : s_Po} {X : s_Xo} (h : vX10_startOfLast_0 d  w Q X) : s_Ex (d + 1) 0 mX10_startOfLast 0 [some (.ref (2))] [] w Q X := by
  unfold vX10_startOfLast_0 at h
  refine s_blk [(.aload_n 0, 1, 0, 0), (.getfield 34, 3, 10, 4)] 4 [some (.ref (2))] [.int (w.1 2 4)] w [q_id 116 10 2] (by decide +kernel) (by refine qt_aload_n (r := 2) rfl ?_; refine qt_getI rfl ?_; exact qt_z rfl rfl rfl rfl rfl) (q_id_of rfl) ?_
  exact s_retI .int (by decide +kernel) rfl rfl h
theorem eX10_startOfLast {d : Nat}  {w : q_Sm} {Q : s_Po} {X : s_Xo} (h : vX10_startOfLast_0 d  w Q X) : s_Ev (d + 1) 0 mX10_startOfLast w [.ref (2)] Q X := s_of (by decide) rfl (Nat.le_of_ble_eq_true rfl) (xX10_startOfLast_0 h)
def vX10_goesOn_0 (d : Nat)  (w : q_Sm) (Q : s_Po) (X : s_Xo) : Prop := s_EvV d 0 mX10_skipBlanks w [.ref (2)] (fun u2 => ((¬ (u2.1 2 5) = 0) → Q (some (.int (0))) u2) ∧ (¬ (¬ (u2.1 2 5) = 0) → (((u2.1 2 2) ≤ (u2.1 2 3)) → Q (some (.int (0))) u2) ∧ (¬ ((u2.1 2 2) ≤ (u2.1 2 3)) → Q (some (.int (1))) u2))) X
theorem xX10_goesOn_0 {d : Nat}  {w : q_Sm} {Q : s_Po} {X : s_Xo} (h : vX10_goesOn_0 d  w Q X) : s_Ex (d + 1) 0 mX10_goesOn 0 [some (.ref (2))] [] w Q X := by
  unfold vX10_goesOn_0 at h
  refine s_blk [(.aload_n 0, 1, 0, 0)] 1 [some (.ref (2))] [.ref (2)] w [] (by decide +kernel) (by refine qt_aload_n (r := 2) rfl ?_; exact qt_z rfl rfl rfl rfl rfl) trivial ?_
  refine s_callV (a := 0) (a' := 0) (As := []) (id := 2) (st := []) kX10_skipBlanks l_10_40 (by decide +kernel) (q_id_of rfl) rfl (Nat.le_of_ble_eq_true rfl) (s_mono h (s_V_of (fun u2 h => ?_)) (fun _ _ h9 => h9))
  show s_Ex (d + 1) 0 mX10_goesOn 4 [some (.ref (2))] [] u2 Q X
  refine s_blk [(.aload_n 0, 1, 0, 0), (.getfield 37, 3, 10, 5)] 8 [some (.ref (2))] [.int (u2.1 2 5)] u2 [q_id 116 10 2] (by decide +kernel) (by refine qt_aload_n (r := 2) rfl ?_; refine qt_getI rfl ?_; exact qt_z rfl rfl rfl rfl rfl) (q_id_of rfl) ?_
  refine s_if (cd := .ne) (off := 18) 26 (by decide +kernel) (by decide) (fun hc => ?_) (fun hc => ?_)
  · replace h := h.1 hc
    refine s_blk [(.iconst 0, 1, 0, 0)] 27 [some (.ref (2))] [.int (0)] u2 [] (by decide +kernel) (by refine qt_iconst qc_0 ?_; exact qt_z rfl rfl rfl rfl rfl) trivial ?_
    exact s_retI .boolean (by decide +kernel) rfl rfl h
  · replace h := h.2 hc
    refine s_blk [(.aload_n 0, 1, 0, 0), (.getfield 31, 3, 10, 3), (.aload_n 0, 1, 0, 0), (.getfield 28, 3, 10, 2)] 19 [some (.ref (2))] [.int (u2.1 2 2), .int (u2.1 2 3)] u2 [q_id 116 10 2, q_id 116 10 2] (by decide +kernel) (by refine qt_aload_n (r := 2) rfl ?_; refine qt_getI rfl ?_; refine qt_aload_n (r := 2) rfl ?_; refine qt_getI rfl ?_; exact qt_z rfl rfl rfl rfl rfl) ⟨(q_id_of rfl), (q_id_of rfl)⟩ ?_
    refine s_icmp (cd := .ge) (off := 7) 26 (by decide +kernel) (by decide) (fun hc => ?_) (fun hc => ?_)
    · replace h := h.1 hc
      refine s_blk [(.iconst 0, 1, 0, 0)] 27 [some (.ref (2))] [.int (0)] u2 [] (by decide +kernel) (by refine qt_iconst qc_0 ?_; exact qt_z rfl rfl rfl rfl rfl) trivial ?_
      exact s_retI .boolean (by decide +kernel) rfl rfl h
    · replace h := h.2 hc
      refine s_blk [(.iconst 1, 1, 0, 0), (.goto 4, 3, 27, 0)] 27 [some (.ref (2))] [.int (1)] u2 [] (by decide +kernel) (by refine qt_iconst qc_1 ?_; refine qt_goto ?_; exact qt_z rfl rfl rfl rfl rfl) trivial ?_
      exact s_retI .boolean (by decide +kernel) rfl rfl h
theorem eX10_goesOn {d : Nat}  {w : q_Sm} {Q : s_Po} {X : s_Xo} (h : vX10_goesOn_0 d  w Q X) : s_Ev (d + 1) 0 mX10_goesOn w [.ref (2)] Q X := s_of (by decide) rfl (Nat.le_of_ble_eq_true rfl) (xX10_goesOn_0 h)
def vX10_takes_0 (d : Nat) (x1 : Int32) (w : q_Sm) (Q : s_Po) (X : s_Xo) : Prop := s_EvV d 0 mX10_skipBlanks w [.ref (2)] (fun u2 => ((¬ (u2.1 2 5) = 0) → Q (some (.int (0))) u2) ∧ (¬ (¬ (u2.1 2 5) = 0) → s_EvI d 0 mX10_peek u2 [.ref (2)] (fun v3 u4 => ((v3 = x1) → ∀ w_5 : q_Sm, w_5 = q_wI u4 2 4 (u4.1 2 3) → ∀ w_6 : q_Sm, w_6 = q_wI w_5 2 3 ((w_5.1 2 3) + 1) → Q (some (.int (1))) w_6) ∧ (¬ (v3 = x1) → Q (some (.int (0))) u4)) X)) X
theorem xX10_takes_0 {d : Nat} {x1 : Int32} {w : q_Sm} {Q : s_Po} {X : s_Xo} (h : vX10_takes_0 d x1 w Q X) : s_Ex (d + 1) 0 mX10_takes 0 [some (.ref (2)), some (.int (x1))] [] w Q X := by
  unfold vX10_takes_0 at h
  refine s_blk [(.aload_n 0, 1, 0, 0)] 1 [some (.ref (2)), some (.int (x1))] [.ref (2)] w [] (by decide +kernel) (by refine qt_aload_n (r := 2) rfl ?_; exact qt_z rfl rfl rfl rfl rfl) trivial ?_
  refine s_callV (a := 0) (a' := 0) (As := []) (id := 2) (st := []) kX10_skipBlanks l_10_40 (by decide +kernel) (q_id_of rfl) rfl (Nat.le_of_ble_eq_true rfl) (s_mono h (s_V_of (fun u2 h => ?_)) (fun _ _ h9 => h9))
  show s_Ex (d + 1) 0 mX10_takes 4 [some (.ref (2)), some (.int (x1))] [] u2 Q X
  refine s_blk [(.aload_n 0, 1, 0, 0), (.getfield 37, 3, 10, 5)] 8 [some (.ref (2)), some (.int (x1))] [.int (u2.1 2 5)] u2 [q_id 116 10 2] (by decide +kernel) (by refine qt_aload_n (r := 2) rfl ?_; refine qt_getI rfl ?_; exact qt_z rfl rfl rfl rfl rfl) (q_id_of rfl) ?_
  refine s_if (cd := .ne) (off := 11) 19 (by decide +kernel) (by decide) (fun hc => ?_) (fun hc => ?_)
  · replace h := h.1 hc
    refine s_blk [(.iconst 0, 1, 0, 0)] 20 [some (.ref (2)), some (.int (x1))] [.int (0)] u2 [] (by decide +kernel) (by refine qt_iconst qc_0 ?_; exact qt_z rfl rfl rfl rfl rfl) trivial ?_
    exact s_retI .boolean (by decide +kernel) rfl rfl h
  · replace h := h.2 hc
    refine s_blk [(.aload_n 0, 1, 0, 0)] 12 [some (.ref (2)), some (.int (x1))] [.ref (2)] u2 [] (by decide +kernel) (by refine qt_aload_n (r := 2) rfl ?_; exact qt_z rfl rfl rfl rfl rfl) trivial ?_
    refine s_callV (a := 0) (a' := 0) (As := []) (id := 2) (st := []) kX10_peek l_10_43 (by decide +kernel) (q_id_of rfl) rfl (Nat.le_of_ble_eq_true rfl) (s_mono h (s_I_of (fun v3 u4 h => ?_)) (fun _ _ h9 => h9))
    show s_Ex (d + 1) 0 mX10_takes 15 [some (.ref (2)), some (.int (x1))] [.int (v3)] u4 Q X
    refine s_blk [(.iload_n 1, 1, 0, 0)] 16 [some (.ref (2)), some (.int (x1))] [.int (x1), .int (v3)] u4 [] (by decide +kernel) (by refine qt_iload_n (x := x1) rfl ?_; exact qt_z rfl rfl rfl rfl rfl) trivial ?_
    refine s_icmp (cd := .eq) (off := 5) 21 (by decide +kernel) (by decide) (fun hc => ?_) (fun hc => ?_)
    · replace h := h.1 hc
      replace h := h _ rfl
      replace h := h _ rfl
      refine s_blk [(.aload_n 0, 1, 0, 0), (.aload_n 0, 1, 0, 0), (.getfield 31, 3, 10, 3), (.putfield 34, 3, 10, 4), (.aload_n 0, 1, 0, 0), (.dup, 1, 0, 0), (.getfield 31, 3, 10, 3), (.iconst 1, 1, 0, 0), (.iadd, 1, 0, 0), (.putfield 31, 3, 10, 3), (.iconst 1, 1, 0, 0)] 40 [some (.ref (2)), some (.int (x1))] [.int (1)] (q_wI (q_wI u4 2 4 (u4.1 2 3)) 2 3 (((q_wI u4 2 4 (u4.1 2 3)).1 2 3) + 1)) [q_id 116 10 2, q_id 116 10 2, q_id 116 10 2, q_id 116 10 2] (by decide +kernel) (by refine qt_aload_n (r := 2) rfl ?_; refine qt_aload_n (r := 2) rfl ?_; refine qt_getI rfl ?_; refine qt_putI rfl ?_; refine qt_aload_n (r := 2) rfl ?_; refine qt_dupR ?_; refine qt_getI rfl ?_; refine qt_iconst qc_1 ?_; refine qt_iadd ?_; refine qt_putI rfl ?_; refine qt_iconst qc_1 ?_; exact qt_z rfl rfl rfl rfl rfl) ⟨(q_id_of rfl), (q_id_of rfl), (q_id_of rfl), (q_id_of rfl)⟩ ?_
      exact s_retI .boolean (by decide +kernel) rfl rfl h
    · replace h := h.2 hc
      refine s_blk [(.iconst 0, 1, 0, 0)] 20 [some (.ref (2)), some (.int (x1))] [.int (0)] u4 [] (by decide +kernel) (by refine qt_iconst qc_0 ?_; exact qt_z rfl rfl rfl rfl rfl) trivial ?_
      exact s_retI .boolean (by decide +kernel) rfl rfl h
theorem eX10_takes {d : Nat} {x1 : Int32} {w : q_Sm} {Q : s_Po} {X : s_Xo} (h : vX10_takes_0 d x1 w Q X) : s_Ev (d + 1) 0 mX10_takes w [.ref (2), .int (x1)] Q X := s_of (by decide) rfl (Nat.le_of_ble_eq_true rfl) (xX10_takes_0 h)
def vX10_need_0 (d : Nat) (x1 : Int32) (w : q_Sm) (Q : s_Po) (X : s_Xo) : Prop := s_EvI d 0 mX10_takes w [.ref (2), .int (x1)] (fun v1 u2 => ((¬ v1 = 0) → Q none u2) ∧ (¬ (¬ v1 = 0) → s_EvV d 0 mX10_blame u2 [.ref (2), .int (1), .int (u2.1 2 3)] (fun u4 => Q none u4) X)) X
theorem xX10_need_0 {d : Nat} {x1 : Int32} {w : q_Sm} {Q : s_Po} {X : s_Xo} (h : vX10_need_0 d x1 w Q X) : s_Ex (d + 1) 0 mX10_need 0 [some (.ref (2)), some (.int (x1))] [] w Q X := by
  unfold vX10_need_0 at h
  refine s_blk [(.aload_n 0, 1, 0, 0), (.iload_n 1, 1, 0, 0)] 2 [some (.ref (2)), some (.int (x1))] [.int (x1), .ref (2)] w [] (by decide +kernel) (by refine qt_aload_n (r := 2) rfl ?_; refine qt_iload_n (x := x1) rfl ?_; exact qt_z rfl rfl rfl rfl rfl) trivial ?_
  refine s_callV (a := 0) (a' := 0) (As := [.int (x1)]) (id := 2) (st := []) kX10_takes l_10_47 (by decide +kernel) (q_id_of rfl) rfl (Nat.le_of_ble_eq_true rfl) (s_mono h (s_I_of (fun v1 u2 h => ?_)) (fun _ _ h9 => h9))
  show s_Ex (d + 1) 0 mX10_need 5 [some (.ref (2)), some (.int (x1))] [.int (v1)] u2 Q X
  refine s_if (cd := .ne) (off := 12) 17 (by decide +kernel) (by decide) (fun hc => ?_) (fun hc => ?_)
  · replace h := h.1 hc
    exact s_retV (by decide +kernel) rfl h
  · replace h := h.2 hc
    refine s_blk [(.aload_n 0, 1, 0, 0), (.iconst 1, 1, 0, 0), (.aload_n 0, 1, 0, 0), (.getfield 31, 3, 10, 3)] 14 [some (.ref (2)), some (.int (x1))] [.int (u2.1 2 3), .int (1), .ref (2)] u2 [q_id 116 10 2] (by decide +kernel) (by refine qt_aload_n (r := 2) rfl ?_; refine qt_iconst qc_1 ?_; refine qt_aload_n (r := 2) rfl ?_; refine qt_getI rfl ?_; exact qt_z rfl rfl rfl rfl rfl) (q_id_of rfl) ?_
    refine s_callV (a := 0) (a' := 0) (As := [.int (1), .int (u2.1 2 3)]) (id := 2) (st := []) kX10_blame l_10_51 (by decide +kernel) (q_id_of rfl) rfl (Nat.le_of_ble_eq_true rfl) (s_mono h (s_V_of (fun u4 h => ?_)) (fun _ _ h9 => h9))
    show s_Ex (d + 1) 0 mX10_need 17 [some (.ref (2)), some (.int (x1))] [] u4 Q X
    exact s_retV (by decide +kernel) rfl h
theorem eX10_need {d : Nat} {x1 : Int32} {w : q_Sm} {Q : s_Po} {X : s_Xo} (h : vX10_need_0 d x1 w Q X) : s_Ev (d + 1) 0 mX10_need w [.ref (2), .int (x1)] Q X := s_of (by decide) rfl (Nat.le_of_ble_eq_true rfl) (xX10_need_0 h)
def vX10_needEnd_0 (d : Nat)  (w : q_Sm) (Q : s_Po) (X : s_Xo) : Prop := s_EvV d 0 mX10_skipBlanks w [.ref (2)] (fun u2 => (((u2.1 2 2) ≤ (u2.1 2 3)) → Q none u2) ∧ (¬ ((u2.1 2 2) ≤ (u2.1 2 3)) → s_EvV d 0 mX10_blame u2 [.ref (2), .int (1), .int (u2.1 2 3)] (fun u4 => Q none u4) X)) X
theorem xX10_needEnd_0 {d : Nat}  {w : q_Sm} {Q : s_Po} {X : s_Xo} (h : vX10_needEnd_0 d  w Q X) : s_Ex (d + 1) 0 mX10_needEnd 0 [some (.ref (2))] [] w Q X := by
  unfold vX10_needEnd_0 at h
  refine s_blk [(.aload_n 0, 1, 0, 0)] 1 [some (.ref (2))] [.ref (2)] w [] (by decide +kernel) (by refine qt_aload_n (r := 2) rfl ?_; exact qt_z rfl rfl rfl rfl rfl) trivial ?_
  refine s_callV (a := 0) (a' := 0) (As := []) (id := 2) (st := []) kX10_skipBlanks l_10_40 (by decide +kernel) (q_id_of rfl) rfl (Nat.le_of_ble_eq_true rfl) (s_mono h (s_V_of (fun u2 h => ?_)) (fun _ _ h9 => h9))
  show s_Ex (d + 1) 0 mX10_needEnd 4 [some (.ref (2))] [] u2 Q X
  refine s_blk [(.aload_n 0, 1, 0, 0), (.getfield 31, 3, 10, 3), (.aload_n 0, 1, 0, 0), (.getfield 28, 3, 10, 2)] 12 [some (.ref (2))] [.int (u2.1 2 2), .int (u2.1 2 3)] u2 [q_id 116 10 2, q_id 116 10 2] (by decide +kernel) (by refine qt_aload_n (r := 2) rfl ?_; refine qt_getI rfl ?_; refine qt_aload_n (r := 2) rfl ?_; refine qt_getI rfl ?_; exact qt_z rfl rfl rfl rfl rfl) ⟨(q_id_of rfl), (q_id_of rfl)⟩ ?_
  refine s_icmp (cd := .ge) (off := 12) 24 (by decide +kernel) (by decide) (fun hc => ?_) (fun hc => ?_)
  · replace h := h.1 hc
    exact s_retV (by decide +kernel) rfl h
  · replace h := h.2 hc
    refine s_blk [(.aload_n 0, 1, 0, 0), (.iconst 1, 1, 0, 0), (.aload_n 0, 1, 0, 0), (.getfield 31, 3, 10, 3)] 21 [some (.ref (2))] [.int (u2.1 2 3), .int (1), .ref (2)] u2 [q_id 116 10 2] (by decide +kernel) (by refine qt_aload_n (r := 2) rfl ?_; refine qt_iconst qc_1 ?_; refine qt_aload_n (r := 2) rfl ?_; refine qt_getI rfl ?_; exact qt_z rfl rfl rfl rfl rfl) (q_id_of rfl) ?_
    refine s_callV (a := 0) (a' := 0) (As := [.int (1), .int (u2.1 2 3)]) (id := 2) (st := []) kX10_blame l_10_51 (by decide +kernel) (q_id_of rfl) rfl (Nat.le_of_ble_eq_true rfl) (s_mono h (s_V_of (fun u4 h => ?_)) (fun _ _ h9 => h9))
    show s_Ex (d + 1) 0 mX10_needEnd 24 [some (.ref (2))] [] u4 Q X
    exact s_retV (by decide +kernel) rfl h
theorem eX10_needEnd {d : Nat}  {w : q_Sm} {Q : s_Po} {X : s_Xo} (h : vX10_needEnd_0 d  w Q X) : s_Ev (d + 1) 0 mX10_needEnd w [.ref (2)] Q X := s_of (by decide) rfl (Nat.le_of_ble_eq_true rfl) (xX10_needEnd_0 h)
def vX10_isAtDigit_0 (d : Nat)  (w : q_Sm) (Q : s_Po) (X : s_Xo) : Prop := s_EvV d 0 mX10_skipBlanks w [.ref (2)] (fun u2 => s_EvI d 0 mX10_peek u2 [.ref (2)] (fun v3 u4 => s_EvI d 0 mX10_isDigit u4 [.int (v3)] (fun v5 u6 => narrow .boolean (.int (v5)) = .int (v5) ∧ Q (some (.int (v5))) u6) X) X) X
theorem xX10_isAtDigit_0 {d : Nat}  {w : q_Sm} {Q : s_Po} {X : s_Xo} (h : vX10_isAtDigit_0 d  w Q X) : s_Ex (d + 1) 0 mX10_isAtDigit 0 [some (.ref (2))] [] w Q X := by
  unfold vX10_isAtDigit_0 at h
  refine s_blk [(.aload_n 0, 1, 0, 0)] 1 [some (.ref (2))] [.ref (2)] w [] (by decide +kernel) (by refine qt_aload_n (r := 2) rfl ?_; exact qt_z rfl rfl rfl rfl rfl) trivial ?_
  refine s_callV (a := 0) (a' := 0) (As := []) (id := 2) (st := []) kX10_skipBlanks l_10_40 (by decide +kernel) (q_id_of rfl) rfl (Nat.le_of_ble_eq_true rfl) (s_mono h (s_V_of (fun u2 h => ?_)) (fun _ _ h9 => h9))
  show s_Ex (d + 1) 0 mX10_isAtDigit 4 [some (.ref (2))] [] u2 Q X
  refine s_blk [(.aload_n 0, 1, 0, 0)] 5 [some (.ref (2))] [.ref (2)] u2 [] (by decide +kernel) (by refine qt_aload_n (r := 2) rfl ?_; exact qt_z rfl rfl rfl rfl rfl) trivial ?_
  refine s_callV (a := 0) (a' := 0) (As := []) (id := 2) (st := []) kX10_peek l_10_43 (by decide +kernel) (q_id_of rfl) rfl (Nat.le_of_ble_eq_true rfl) (s_mono h (s_I_of (fun v3 u4 h => ?_)) (fun _ _ h9 => h9))
  show s_Ex (d + 1) 0 mX10_isAtDigit 8 [some (.ref (2))] [.int (v3)] u4 Q X
  refine s_callS (a := 0) (a' := 0) (As := [.int (v3)]) (st := []) kX10_isDigit l_10_55 (by decide +kernel) rfl (Nat.le_of_ble_eq_true rfl) (s_mono h (s_I_of (fun v5 u6 h => ?_)) (fun _ _ h9 => h9))
  show s_Ex (d + 1) 0 mX10_isAtDigit 11 [some (.ref (2))] [.int (v5)] u6 Q X
  obtain ⟨hn, h⟩ := h
  exact s_retI .boolean (by decide +kernel) rfl hn h
theorem eX10_isAtDigit {d : Nat}  {w : q_Sm} {Q : s_Po} {X : s_Xo} (h : vX10_isAtDigit_0 d  w Q X) : s_Ev (d + 1) 0 mX10_isAtDigit w [.ref (2)] Q X := s_of (by decide) rfl (Nat.le_of_ble_eq_true rfl) (xX10_isAtDigit_0 h)
def vX10_word_0 (d : Nat)  (w : q_Sm) (Q : s_Po) (X : s_Xo) : Prop := s_EvV d 0 mX10_skipBlanks w [.ref (2)] (fun u2 => ∀ w_3 : q_Sm, w_3 = q_wI u2 2 4 (u2.1 2 3) → s_Ex (d + 1) 0 mX10_word 12 [some (.ref (2))] [] w_3 Q X) X
def vX10_word_12 (d : Nat)  (w : q_Sm) (Q : s_Po) (X : s_Xo) : Prop := (((w.1 2 2) ≤ (w.1 2 3)) → Q none w) ∧ (¬ ((w.1 2 2) ≤ (w.1 2 3)) → s_EvI d 0 mX10_peek w [.ref (2)] (fun v4 u5 => s_EvI d 0 mX10_isLetter u5 [.int (v4)] (fun v6 u7 => ((v6 = 0) → Q none u7) ∧ (¬ (v6 = 0) → ∀ w_8 : q_Sm, w_8 = q_wI u7 2 3 ((u7.1 2 3) + 1) → s_Ex (d + 1) 0 mX10_word 12 [some (.ref (2))] [] w_8 Q X)) X) X)
theorem xX10_word_0 {d : Nat}  {w : q_Sm} {Q : s_Po} {X : s_Xo} (h : vX10_word_0 d  w Q X) : s_Ex (d + 1) 0 mX10_word 0 [some (.ref (2))] [] w Q X := by
  unfold vX10_word_0 at h
  refine s_blk [(.aload_n 0, 1, 0, 0)] 1 [some (.ref (2))] [.ref (2)] w [] (by decide +kernel) (by refine qt_aload_n (r := 2) rfl ?_; exact qt_z rfl rfl rfl rfl rfl) trivial ?_
  refine s_callV (a := 0) (a' := 0) (As := []) (id := 2) (st := []) kX10_skipBlanks l_10_40 (by decide +kernel) (q_id_of rfl) rfl (Nat.le_of_ble_eq_true rfl) (s_mono h (s_V_of (fun u2 h => ?_)) (fun _ _ h9 => h9))
  show s_Ex (d + 1) 0 mX10_word 4 [some (.ref (2))] [] u2 Q X
  replace h := h _ rfl
  refine s_blk [(.aload_n 0, 1, 0, 0), (.aload_n 0, 1, 0, 0), (.getfield 31, 3, 10, 3), (.putfield 34, 3, 10, 4)] 12 [some (.ref (2))] [] (q_wI u2 2 4 (u2.1 2 3)) [q_id 116 10 2, q_id 116 10 2] (by decide +kernel) (by refine qt_aload_n (r := 2) rfl ?_; refine qt_aload_n (r := 2) rfl ?_; refine qt_getI rfl ?_; refine qt_putI rfl ?_; exact qt_z rfl rfl rfl rfl rfl) ⟨(q_id_of rfl), (q_id_of rfl)⟩ ?_
  exact h
theorem xX10_word_12 {d : Nat}  {w : q_Sm} {Q : s_Po} {X : s_Xo} (h : vX10_word_12 d  w Q X) : s_Ex (d + 1) 0 mX10_word 12 [some (.ref (2))] [] w Q X := by
  unfold vX10_word_12 at h
  refine s_blk [(.aload_n 0, 1, 0, 0), (.getfield 31, 3, 10, 3), (.aload_n 0, 1, 0, 0), (.getfield 28, 3, 10, 2)] 20 [some (.ref (2))] [.int (w.1 2 2), .int (w.1 2 3)] w [q_id 116 10 2, q_id 116 10 2] (by decide +kernel) (by refine qt_aload_n (r := 2) rfl ?_; refine qt_getI rfl ?_; refine qt_aload_n (r := 2) rfl ?_; refine qt_getI rfl ?_; exact qt_z rfl rfl rfl rfl rfl) ⟨(q_id_of rfl), (q_id_of rfl)⟩ ?_
  refine s_icmp (cd := .ge) (off := 26) 46 (by decide +kernel) (by decide) (fun hc => ?_) (fun hc => ?_)
  · replace h := h.1 hc
    exact s_retV (by decide +kernel) rfl h
  · replace h := h.2 hc
    refine s_blk [(.aload_n 0, 1, 0, 0)] 24 [some (.ref (2))] [.ref (2)] w [] (by decide +kernel) (by refine qt_aload_n (r := 2) rfl ?_; exact qt_z rfl rfl rfl rfl rfl) trivial ?_
    refine s_callV (a := 0) (a' := 0) (As := []) (id := 2) (st := []) kX10_peek l_10_43 (by decide +kernel) (q_id_of rfl) rfl (Nat.le_of_ble_eq_true rfl) (s_mono h (s_I_of (fun v4 u5 h => ?_)) (fun _ _ h9 => h9))
    show s_Ex (d + 1) 0 mX10_word 27 [some (.ref (2))] [.int (v4)] u5 Q X
    refine s_callS (a := 0) (a' := 0) (As := [.int (v4)]) (st := []) kX10_isLetter l_10_59 (by decide +kernel) rfl (Nat.le_of_ble_eq_true rfl) (s_mono h (s_I_of (fun v6 u7 h => ?_)) (fun _ _ h9 => h9))
    show s_Ex (d + 1) 0 mX10_word 30 [some (.ref (2))] [.int (v6)] u7 Q X
    refine s_if (cd := .eq) (off := 16) 46 (by decide +kernel) (by decide) (fun hc => ?_) (fun hc => ?_)
    · replace h := h.1 hc
      exact s_retV (by decide +kernel) rfl h
    · replace h := h.2 hc
      replace h := h _ rfl
      refine s_blk [(.aload_n 0, 1, 0, 0), (.dup, 1, 0, 0), (.getfield 31, 3, 10, 3), (.iconst 1, 1, 0, 0), (.iadd, 1, 0, 0), (.putfield 31, 3, 10, 3), (.goto (-31), 3, 12, 0)] 12 [some (.ref (2))] [] (q_wI u7 2 3 ((u7.1 2 3) + 1)) [q_id 116 10 2, q_id 116 10 2] (by decide +kernel) (by refine qt_aload_n (r := 2) rfl ?_; refine qt_dupR ?_; refine qt_getI rfl ?_; refine qt_iconst qc_1 ?_; refine qt_iadd ?_; refine qt_putI rfl ?_; refine qt_goto ?_; exact qt_z rfl rfl rfl rfl rfl) ⟨(q_id_of rfl), (q_id_of rfl)⟩ ?_
      exact h
theorem eX10_word {d : Nat}  {w : q_Sm} {Q : s_Po} {X : s_Xo} (h : vX10_word_0 d  w Q X) : s_Ev (d + 1) 0 mX10_word w [.ref (2)] Q X := s_of (by decide) rfl (Nat.le_of_ble_eq_true rfl) (xX10_word_0 h)
def vX10_colour_0 (d : Nat)  (w : q_Sm) (Q : s_Po) (X : s_Xo) : Prop := s_EvV d 0 mX10_word w [.ref (2)] (fun u2 => s_EvI d 0 mX10_was u2 [.ref (2), .retAddr 2] (fun v3 u4 => ((v3 = 0) → s_EvI d 0 mX10_was u4 [.ref (2), .retAddr 3] (fun v5 u6 => ((v5 = 0) → s_EvI d 0 mX10_was u6 [.ref (2), .retAddr 4] (fun v7 u8 => ((v7 = 0) → s_EvI d 0 mX10_was u8 [.ref (2), .retAddr 5] (fun v9 u10 => ((¬ v9 = 0) → Q (some (.int (3))) u10) ∧ (¬ (¬ v9 = 0) → s_EvV d 0 mX10_blame u10 [.ref (2), .int (1), .int (u10.1 2 4)] (fun u12 => Q (some (.int (3))) u12) X)) X) ∧ (¬ (v7 = 0) → Q (some (.int (2))) u8)) X) ∧ (¬ (v5 = 0) → Q (some (.int (1))) u6)) X) ∧ (¬ (v3 = 0) → Q (some (.int (0))) u4)) X) X
theorem xX10_colour_0 {d : Nat}  {w : q_Sm} {Q : s_Po} {X : s_Xo} (h : vX10_colour_0 d  w Q X) : s_Ex (d + 1) 0 mX10_colour 0 [some (.ref (2))] [] w Q X := by
  unfold vX10_colour_0 at h
  refine s_blk [(.aload_n 0, 1, 0, 0)] 1 [some (.ref (2))] [.ref (2)] w [] (by decide +kernel) (by refine qt_aload_n (r := 2) rfl ?_; exact qt_z rfl rfl rfl rfl rfl) trivial ?_
  refine s_callV (a := 0) (a' := 0) (As := []) (id := 2) (st := []) kX10_word l_10_71 (by decide +kernel) (q_id_of rfl) rfl (Nat.le_of_ble_eq_true rfl) (s_mono h (s_V_of (fun u2 h => ?_)) (fun _ _ h9 => h9))
  show s_Ex (d + 1) 0 mX10_colour 4 [some (.ref (2))] [] u2 Q X
  refine s_blk [(.aload_n 0, 1, 0, 0), (.ldc 74, 2, 1, 2)] 7 [some (.ref (2))] [.retAddr 2, .ref (2)] u2 [] (by decide +kernel) (by refine qt_aload_n (r := 2) rfl ?_; refine qt_ldcS ?_; exact qt_z rfl rfl rfl rfl rfl) trivial ?_
  refine s_callV (a := 0) (a' := 0) (As := [.retAddr 2]) (id := 2) (st := []) kX10_was l_10_76 (by decide +kernel) (q_id_of rfl) rfl (Nat.le_of_ble_eq_true rfl) (s_mono h (s_I_of (fun v3 u4 h => ?_)) (fun _ _ h9 => h9))
  show s_Ex (d + 1) 0 mX10_colour 10 [some (.ref (2))] [.int (v3)] u4 Q X
  refine s_if (cd := .eq) (off := 5) 15 (by decide +kernel) (by decide) (fun hc => ?_) (fun hc => ?_)
  · replace h := h.1 hc
    refine s_blk [(.aload_n 0, 1, 0, 0), (.ldc 80, 2, 1, 3)] 18 [some (.ref (2))] [.retAddr 3, .ref (2)] u4 [] (by decide +kernel) (by refine qt_aload_n (r := 2) rfl ?_; refine qt_ldcS ?_; exact qt_z rfl rfl rfl rfl rfl) trivial ?_
    refine s_callV (a := 0) (a' := 0) (As := [.retAddr 3]) (id := 2) (st := []) kX10_was l_10_76 (by decide +kernel) (q_id_of rfl) rfl (Nat.le_of_ble_eq_true rfl) (s_mono h (s_I_of (fun v5 u6 h => ?_)) (fun _ _ h9 => h9))
    show s_Ex (d + 1) 0 mX10_colour 21 [some (.ref (2))] [.int (v5)] u6 Q X
    refine s_if (cd := .eq) (off := 5) 26 (by decide +kernel) (by decide) (fun hc => ?_) (fun hc => ?_)
    · replace h := h.1 hc
      refine s_blk [(.aload_n 0, 1, 0, 0), (.ldc 82, 2, 1, 4)] 29 [some (.ref (2))] [.retAddr 4, .ref (2)] u6 [] (by decide +kernel) (by refine qt_aload_n (r := 2) rfl ?_; refine qt_ldcS ?_; exact qt_z rfl rfl rfl rfl rfl) trivial ?_
      refine s_callV (a := 0) (a' := 0) (As := [.retAddr 4]) (id := 2) (st := []) kX10_was l_10_76 (by decide +kernel) (q_id_of rfl) rfl (Nat.le_of_ble_eq_true rfl) (s_mono h (s_I_of (fun v7 u8 h => ?_)) (fun _ _ h9 => h9))
      show s_Ex (d + 1) 0 mX10_colour 32 [some (.ref (2))] [.int (v7)] u8 Q X
      refine s_if (cd := .eq) (off := 5) 37 (by decide +kernel) (by decide) (fun hc => ?_) (fun hc => ?_)
      · replace h := h.1 hc
        refine s_blk [(.aload_n 0, 1, 0, 0), (.ldc 84, 2, 1, 5)] 40 [some (.ref (2))] [.retAddr 5, .ref (2)] u8 [] (by decide +kernel) (by refine qt_aload_n (r := 2) rfl ?_; refine qt_ldcS ?_; exact qt_z rfl rfl rfl rfl rfl) trivial ?_
        refine s_callV (a := 0) (a' := 0) (As := [.retAddr 5]) (id := 2) (st := []) kX10_was l_10_76 (by decide +kernel) (q_id_of rfl) rfl (Nat.le_of_ble_eq_true rfl) (s_mono h (s_I_of (fun v9 u10 h => ?_)) (fun _ _ h9 => h9))
        show s_Ex (d + 1) 0 mX10_colour 43 [some (.ref (2))] [.int (v9)] u10 Q X
        refine s_if (cd := .ne) (off := 12) 55 (by decide +kernel) (by decide) (fun hc => ?_) (fun hc => ?_)
        · replace h := h.1 hc
          refine s_blk [(.iconst 3, 1, 0, 0)] 56 [some (.ref (2))] [.int (3)] u10 [] (by decide +kernel) (by refine qt_iconst qc_3 ?_; exact qt_z rfl rfl rfl rfl rfl) trivial ?_
          exact s_retI .int (by decide +kernel) rfl rfl h
        · replace h := h.2 hc
          refine s_blk [(.aload_n 0, 1, 0, 0), (.iconst 1, 1, 0, 0), (.aload_n 0, 1, 0, 0), (.getfield 34, 3, 10, 4)] 52 [some (.ref (2))] [.int (u10.1 2 4), .int (1), .ref (2)] u10 [q_id 116 10 2] (by decide +kernel) (by refine qt_aload_n (r := 2) rfl ?_; refine qt_iconst qc_1 ?_; refine qt_aload_n (r := 2) rfl ?_; refine qt_getI rfl ?_; exact qt_z rfl rfl rfl rfl rfl) (q_id_of rfl) ?_
          refine s_callV (a := 0) (a' := 0) (As := [.int (1), .int (u10.1 2 4)]) (id := 2) (st := []) kX10_blame l_10_51 (by decide +kernel) (q_id_of rfl) rfl (Nat.le_of_ble_eq_true rfl) (s_mono h (s_V_of (fun u12 h => ?_)) (fun _ _ h9 => h9))
          show s_Ex (d + 1) 0 mX10_colour 55 [some (.ref (2))] [] u12 Q X
          refine s_blk [(.iconst 3, 1, 0, 0)] 56 [some (.ref (2))] [.int (3)] u12 [] (by decide +kernel) (by refine qt_iconst qc_3 ?_; exact qt_z rfl rfl rfl rfl rfl) trivial ?_
          exact s_retI .int (by decide +kernel) rfl rfl h
      · replace h := h.2 hc
        refine s_blk [(.iconst 2, 1, 0, 0)] 36 [some (.ref (2))] [.int (2)] u8 [] (by decide +kernel) (by refine qt_iconst qc_2 ?_; exact qt_z rfl rfl rfl rfl rfl) trivial ?_
        exact s_retI .int (by decide +kernel) rfl rfl h
    · replace h := h.2 hc
      refine s_blk [(.iconst 1, 1, 0, 0)] 25 [some (.ref (2))] [.int (1)] u6 [] (by decide +kernel) (by refine qt_iconst qc_1 ?_; exact qt_z rfl rfl rfl rfl rfl) trivial ?_
      exact s_retI .int (by decide +kernel) rfl rfl h
  · replace h := h.2 hc
    refine s_blk [(.iconst 0, 1, 0, 0)] 14 [some (.ref (2))] [.int (0)] u4 [] (by decide +kernel) (by refine qt_iconst qc_0 ?_; exact qt_z rfl rfl rfl rfl rfl) trivial ?_
    exact s_retI .int (by decide +kernel) rfl rfl h
theorem eX10_colour {d : Nat}  {w : q_Sm} {Q : s_Po} {X : s_Xo} (h : vX10_colour_0 d  w Q X) : s_Ev (d + 1) 0 mX10_colour w [.ref (2)] Q X := s_of (by decide) rfl (Nat.le_of_ble_eq_true rfl) (xX10_colour_0 h)
def vX10_peek_0 (d : Nat)  (w : q_Sm) (Q : s_Po) (X : s_Xo) : Prop := (((w.1 2 2) ≤ (w.1 2 3)) → Q (some (.int (-1))) w) ∧ (¬ ((w.1 2 2) ≤ (w.1 2 3)) → (vp_in (w.1 2 3) 600) ∧ Q (some (.int ((w.1 3 (Int32.toNatClampNeg (w.1 2 3))) &&& 255))) w)
theorem xX10_peek_0 {d : Nat}  {w : q_Sm} {Q : s_Po} {X : s_Xo} (h : vX10_peek_0 d  w Q X) : s_Ex (d + 1) 0 mX10_peek 0 [some (.ref (2))] [] w Q X := by
  unfold vX10_peek_0 at h
  refine s_blk [(.aload_n 0, 1, 0, 0), (.getfield 31, 3, 10, 3), (.aload_n 0, 1, 0, 0), (.getfield 28, 3, 10, 2)] 8 [some (.ref (2))] [.int (w.1 2 2), .int (w.1 2 3)] w [q_id 116 10 2, q_id 116 10 2] (by decide +kernel) (by refine qt_aload_n (r := 2) rfl ?_; refine qt_getI rfl ?_; refine qt_aload_n (r := 2) rfl ?_; refine qt_getI rfl ?_; exact qt_z rfl rfl rfl rfl rfl) ⟨(q_id_of rfl), (q_id_of rfl)⟩ ?_
  refine s_icmp (cd := .ge) (off := 19) 27 (by decide +kernel) (by decide) (fun hc => ?_) (fun hc => ?_)
  · replace h := h.1 hc
    refine s_blk [(.iconst (-1), 1, 0, 0)] 28 [some (.ref (2))] [.int (-1)] w [] (by decide +kernel) (by refine qt_iconst qc_m1 ?_; exact qt_z rfl rfl rfl rfl rfl) trivial ?_
    exact s_retI .int (by decide +kernel) rfl rfl h
  · replace h := h.2 hc
    obtain ⟨ho1, h⟩ := h
    refine s_blk [(.aload_n 0, 1, 0, 0), (.getfield 9, 3, 10, 0), (.aload_n 0, 1, 0, 0), (.getfield 31, 3, 10, 3), (.baload, 1, 13, 0), (.sipush 255, 3, 0, 0), (.iand, 1, 0, 0), (.goto 4, 3, 28, 0)] 28 [some (.ref (2))] [.int ((w.1 3 (Int32.toNatClampNeg (w.1 2 3))) &&& 255)] w [q_id 116 10 2, q_id 116 10 2, q_id 116 13 3, vp_in (w.1 2 3) 600] (by decide +kernel) (by refine qt_aload_n (r := 2) rfl ?_; refine qt_getR (r := 3) rfl rfl ?_; refine qt_aload_n (r := 2) rfl ?_; refine qt_getI rfl ?_; refine qt_bald ?_; refine qt_sipush qs_255 ?_; refine qt_iand ?_; refine qt_goto ?_; exact qt_z rfl rfl rfl rfl rfl) ⟨(q_id_of rfl), (q_id_of rfl), (q_id_of rfl), ho1⟩ ?_
    exact s_retI .int (by decide +kernel) rfl rfl h
theorem eX10_peek {d : Nat}  {w : q_Sm} {Q : s_Po} {X : s_Xo} (h : vX10_peek_0 d  w Q X) : s_Ev (d + 1) 0 mX10_peek w [.ref (2)] Q X := s_of (by decide) rfl (Nat.le_of_ble_eq_true rfl) (xX10_peek_0 h)
def vX10_skipBlanks_0 (d : Nat)  (w : q_Sm) (Q : s_Po) (X : s_Xo) : Prop := (((w.1 2 2) ≤ (w.1 2 3)) → Q none w) ∧ (¬ ((w.1 2 2) ≤ (w.1 2 3)) → (vp_in (w.1 2 3) 600) ∧ ((¬ (w.1 3 (Int32.toNatClampNeg (w.1 2 3))) = 32) → Q none w) ∧ (¬ (¬ (w.1 3 (Int32.toNatClampNeg (w.1 2 3))) = 32) → ∀ w_1 : q_Sm, w_1 = q_wI w 2 3 ((w.1 2 3) + 1) → s_Ex (d + 1) 0 mX10_skipBlanks 0 [some (.ref (2))] [] w_1 Q X))
theorem xX10_skipBlanks_0 {d : Nat}  {w : q_Sm} {Q : s_Po} {X : s_Xo} (h : vX10_skipBlanks_0 d  w Q X) : s_Ex (d + 1) 0 mX10_skipBlanks 0 [some (.ref (2))] [] w Q X := by
  unfold vX10_skipBlanks_0 at h
  refine s_blk [(.aload_n 0, 1, 0, 0), (.getfield 31, 3, 10, 3), (.aload_n 0, 1, 0, 0), (.getfield 28, 3, 10, 2)] 8 [some (.ref (2))] [.int (w.1 2 2), .int (w.1 2 3)] w [q_id 116 10 2, q_id 116 10 2] (by decide +kernel) (by refine qt_aload_n (r := 2) rfl ?_; refine qt_getI rfl ?_; refine qt_aload_n (r := 2) rfl ?_; refine qt_getI rfl ?_; exact qt_z rfl rfl rfl rfl rfl) ⟨(q_id_of rfl), (q_id_of rfl)⟩ ?_
  refine s_icmp (cd := .ge) (off := 30) 38 (by decide +kernel) (by decide) (fun hc => ?_) (fun hc => ?_)
  · replace h := h.1 hc
    exact s_retV (by decide +kernel) rfl h
  · replace h := h.2 hc
    obtain ⟨ho2, h⟩ := h
    refine s_blk [(.aload_n 0, 1, 0, 0), (.getfield 9, 3, 10, 0), (.aload_n 0, 1, 0, 0), (.getfield 31, 3, 10, 3), (.baload, 1, 13, 0), (.bipush 32, 2, 0, 0)] 22 [some (.ref (2))] [.int (32), .int (w.1 3 (Int32.toNatClampNeg (w.1 2 3)))] w [q_id 116 10 2, q_id 116 10 2, q_id 116 13 3, vp_in (w.1 2 3) 600] (by decide +kernel) (by refine qt_aload_n (r := 2) rfl ?_; refine qt_getR (r := 3) rfl rfl ?_; refine qt_aload_n (r := 2) rfl ?_; refine qt_getI rfl ?_; refine qt_bald ?_; refine qt_bipush qb_32 ?_; exact qt_z rfl rfl rfl rfl rfl) ⟨(q_id_of rfl), (q_id_of rfl), (q_id_of rfl), ho2⟩ ?_
    refine s_icmp (cd := .ne) (off := 16) 38 (by decide +kernel) (by decide) (fun hc => ?_) (fun hc => ?_)
    · replace h := h.1 hc
      exact s_retV (by decide +kernel) rfl h
    · replace h := h.2 hc
      replace h := h _ rfl
      refine s_blk [(.aload_n 0, 1, 0, 0), (.dup, 1, 0, 0), (.getfield 31, 3, 10, 3), (.iconst 1, 1, 0, 0), (.iadd, 1, 0, 0), (.putfield 31, 3, 10, 3), (.goto (-35), 3, 0, 0)] 0 [some (.ref (2))] [] (q_wI w 2 3 ((w.1 2 3) + 1)) [q_id 116 10 2, q_id 116 10 2] (by decide +kernel) (by refine qt_aload_n (r := 2) rfl ?_; refine qt_dupR ?_; refine qt_getI rfl ?_; refine qt_iconst qc_1 ?_; refine qt_iadd ?_; refine qt_putI rfl ?_; refine qt_goto ?_; exact qt_z rfl rfl rfl rfl rfl) ⟨(q_id_of rfl), (q_id_of rfl)⟩ ?_
      exact h
theorem eX10_skipBlanks {d : Nat}  {w : q_Sm} {Q : s_Po} {X : s_Xo} (h : vX10_skipBlanks_0 d  w Q X) : s_Ev (d + 1) 0 mX10_skipBlanks w [.ref (2)] Q X := s_of (by decide) rfl (Nat.le_of_ble_eq_true rfl) (xX10_skipBlanks_0 h)
def vX10_isDigit_0 (d : Nat) (x0 : Int32) (w : q_Sm) (Q : s_Po) (X : s_Xo) : Prop := ((x0 < 48) → Q (some (.int (0))) w) ∧ (¬ (x0 < 48) → ((57 < x0) → Q (some (.int (0))) w) ∧ (¬ (57 < x0) → Q (some (.int (1))) w))
theorem xX10_isDigit_0 {d : Nat} {x0 : Int32} {w : q_Sm} {Q : s_Po} {X : s_Xo} (h : vX10_isDigit_0 d x0 w Q X) : s_Ex (d + 1) 0 mX10_isDigit 0 [some (.int (x0))] [] w Q X := by
  unfold vX10_isDigit_0 at h
  refine s_blk [(.iload_n 0, 1, 0, 0), (.bipush 48, 2, 0, 0)] 3 [some (.int (x0))] [.int (48), .int (x0)] w [] (by decide +kernel) (by refine qt_iload_n (x := x0) rfl ?_; refine qt_bipush qb_48 ?_; exact qt_z rfl rfl rfl rfl rfl) trivial ?_
  refine s_icmp (cd := .lt) (off := 13) 16 (by decide +kernel) (by decide) (fun hc => ?_) (fun hc => ?_)
  · replace h := h.1 hc
    refine s_blk [(.iconst 0, 1, 0, 0)] 17 [some (.int (x0))] [.int (0)] w [] (by decide +kernel) (by refine qt_iconst qc_0 ?_; exact qt_z rfl rfl rfl rfl rfl) trivial ?_
    exact s_retI .boolean (by decide +kernel) rfl rfl h
  · replace h := h.2 hc
    refine s_blk [(.iload_n 0, 1, 0, 0), (.bipush 57, 2, 0, 0)] 9 [some (.int (x0))] [.int (57), .int (x0)] w [] (by decide +kernel) (by refine qt_iload_n (x := x0) rfl ?_; refine qt_bipush qb_57 ?_; exact qt_z rfl rfl rfl rfl rfl) trivial ?_
    refine s_icmp (cd := .gt) (off := 7) 16 (by decide +kernel) (by decide) (fun hc => ?_) (fun hc => ?_)
    · replace h := h.1 hc
      refine s_blk [(.iconst 0, 1, 0, 0)] 17 [some (.int (x0))] [.int (0)] w [] (by decide +kernel) (by refine qt_iconst qc_0 ?_; exact qt_z rfl rfl rfl rfl rfl) trivial ?_
      exact s_retI .boolean (by decide +kernel) rfl rfl h
    · replace h := h.2 hc
      refine s_blk [(.iconst 1, 1, 0, 0), (.goto 4, 3, 17, 0)] 17 [some (.int (x0))] [.int (1)] w [] (by decide +kernel) (by refine qt_iconst qc_1 ?_; refine qt_goto ?_; exact qt_z rfl rfl rfl rfl rfl) trivial ?_
      exact s_retI .boolean (by decide +kernel) rfl rfl h
theorem eX10_isDigit {d : Nat} {x0 : Int32} {w : q_Sm} {Q : s_Po} {X : s_Xo} (h : vX10_isDigit_0 d x0 w Q X) : s_Ev (d + 1) 0 mX10_isDigit w [.int (x0)] Q X := s_of (by decide) rfl (Nat.le_of_ble_eq_true rfl) (xX10_isDigit_0 h)
def vX10_isLetter_0 (d : Nat) (x0 : Int32) (w : q_Sm) (Q : s_Po) (X : s_Xo) : Prop := ((x0 < 97) → Q (some (.int (0))) w) ∧ (¬ (x0 < 97) → ((122 < x0) → Q (some (.int (0))) w) ∧ (¬ (122 < x0) → Q (some (.int (1))) w))
theorem xX10_isLetter_0 {d : Nat} {x0 : Int32} {w : q_Sm} {Q : s_Po} {X : s_Xo} (h : vX10_isLetter_0 d x0 w Q X) : s_Ex (d + 1) 0 mX10_isLetter 0 [some (.int (x0))] [] w Q X := by
  unfold vX10_isLetter_0 at h
  refine s_blk [(.iload_n 0, 1, 0, 0), (.bipush 97, 2, 0, 0)] 3 [some (.int (x0))] [.int (97), .int (x0)] w [] (by decide +kernel) (by refine qt_iload_n (x := x0) rfl ?_; refine qt_bipush qb_97 ?_; exact qt_z rfl rfl rfl rfl rfl) trivial ?_
  refine s_icmp (cd := .lt) (off := 13) 16 (by decide +kernel) (by decide) (fun hc => ?_) (fun hc => ?_)
  · replace h := h.1 hc
    refine s_blk [(.iconst 0, 1, 0, 0)] 17 [some (.int (x0))] [.int (0)] w [] (by decide +kernel) (by refine qt_iconst qc_0 ?_; exact qt_z rfl rfl rfl rfl rfl) trivial ?_
    exact s_retI .boolean (by decide +kernel) rfl rfl h
  · replace h := h.2 hc
    refine s_blk [(.iload_n 0, 1, 0, 0), (.bipush 122, 2, 0, 0)] 9 [some (.int (x0))] [.int (122), .int (x0)] w [] (by decide +kernel) (by refine qt_iload_n (x := x0) rfl ?_; refine qt_bipush qb_122 ?_; exact qt_z rfl rfl rfl rfl rfl) trivial ?_
    refine s_icmp (cd := .gt) (off := 7) 16 (by decide +kernel) (by decide) (fun hc => ?_) (fun hc => ?_)
    · replace h := h.1 hc
      refine s_blk [(.iconst 0, 1, 0, 0)] 17 [some (.int (x0))] [.int (0)] w [] (by decide +kernel) (by refine qt_iconst qc_0 ?_; exact qt_z rfl rfl rfl rfl rfl) trivial ?_
      exact s_retI .boolean (by decide +kernel) rfl rfl h
    · replace h := h.2 hc
      refine s_blk [(.iconst 1, 1, 0, 0), (.goto 4, 3, 17, 0)] 17 [some (.int (x0))] [.int (1)] w [] (by decide +kernel) (by refine qt_iconst qc_1 ?_; refine qt_goto ?_; exact qt_z rfl rfl rfl rfl rfl) trivial ?_
      exact s_retI .boolean (by decide +kernel) rfl rfl h
theorem eX10_isLetter {d : Nat} {x0 : Int32} {w : q_Sm} {Q : s_Po} {X : s_Xo} (h : vX10_isLetter_0 d x0 w Q X) : s_Ev (d + 1) 0 mX10_isLetter w [.int (x0)] Q X := s_of (by decide) rfl (Nat.le_of_ble_eq_true rfl) (xX10_isLetter_0 h)
def vX2_read_0 (d : Nat) (o0 : Nat) (w : q_Sm) (Q : s_Po) (X : s_Xo) : Prop := q_id 116 2 o0 ∧ s_EvV d 0 mX2_clear w [.ref (o0)] (fun u2 => s_Ex (d + 1) 0 mX2_read 6 [some (.ref (o0)), some (.ref (2)), some (.int (0))] [] u2 Q X) X
def vX2_read_6 (d : Nat) (o0 : Nat) (x2 : Int32) (w : q_Sm) (Q : s_Po) (X : s_Xo) : Prop := ((60 < x2) → q_id 116 2 o0 ∧ s_EvV d 0 mX2_orderByTerm w [.ref (o0)] (fun u4 => Q none u4) X) ∧ (¬ (60 < x2) → s_EvI d 0 mX10_goesOn w [.ref (2)] (fun v5 u6 => ((v5 = 0) → q_id 116 2 o0 ∧ s_EvV d 0 mX2_orderByTerm u6 [.ref (o0)] (fun u8 => Q none u8) X) ∧ (¬ (v5 = 0) → ((60 ≤ x2) → q_id 116 2 o0 ∧ s_EvV d 0 mX2_readClause u6 [.ref (o0), .ref (2), .int (0)] (fun u10 => s_EvV d 0 mX10_need u10 [.ref (2), .int (59)] (fun u12 => s_Ex (d + 1) 0 mX2_read 6 [some (.ref (o0)), some (.ref (2)), some (.int (x2 + 1))] [] u12 Q X) X) X) ∧ (¬ (60 ≤ x2) → q_id 116 2 o0 ∧ s_EvV d 0 mX2_readClause u6 [.ref (o0), .ref (2), .int (1)] (fun u14 => s_EvV d 0 mX10_need u14 [.ref (2), .int (59)] (fun u16 => s_Ex (d + 1) 0 mX2_read 6 [some (.ref (o0)), some (.ref (2)), some (.int (x2 + 1))] [] u16 Q X) X) X))) X)
theorem xX2_read_0 {d : Nat} {o0 : Nat} {w : q_Sm} {Q : s_Po} {X : s_Xo} (h : vX2_read_0 d o0 w Q X) : s_Ex (d + 1) 0 mX2_read 0 [some (.ref (o0)), some (.ref (2)), none] [] w Q X := by
  unfold vX2_read_0 at h
  refine s_blk [(.aload_n 0, 1, 0, 0)] 1 [some (.ref (o0)), some (.ref (2)), none] [.ref (o0)] w [] (by decide +kernel) (by refine qt_aload_n (r := o0) rfl ?_; exact qt_z rfl rfl rfl rfl rfl) trivial ?_
  obtain ⟨hid, h⟩ := h
  refine s_callV (a := 0) (a' := 0) (As := []) (id := o0) (st := []) kX2_clear l_2_57 (by decide +kernel) hid rfl (Nat.le_of_ble_eq_true rfl) (s_mono h (s_V_of (fun u2 h => ?_)) (fun _ _ h9 => h9))
  show s_Ex (d + 1) 0 mX2_read 4 [some (.ref (o0)), some (.ref (2)), none] [] u2 Q X
  refine s_blk [(.iconst 0, 1, 0, 0), (.istore_n 2, 1, 0, 0)] 6 [some (.ref (o0)), some (.ref (2)), some (.int (0))] [] u2 [] (by decide +kernel) (by refine qt_iconst qc_0 ?_; refine qt_istore_n (L' := [some (.ref (o0)), some (.ref (2)), some (.int (0))]) rfl ?_; exact qt_z rfl rfl rfl rfl rfl) trivial ?_
  exact h
theorem xX2_read_6 {d : Nat} {o0 : Nat} {x2 : Int32} {w : q_Sm} {Q : s_Po} {X : s_Xo} (h : vX2_read_6 d o0 x2 w Q X) : s_Ex (d + 1) 0 mX2_read 6 [some (.ref (o0)), some (.ref (2)), some (.int (x2))] [] w Q X := by
  unfold vX2_read_6 at h
  refine s_blk [(.iload_n 2, 1, 0, 0), (.bipush 60, 2, 0, 0)] 9 [some (.ref (o0)), some (.ref (2)), some (.int (x2))] [.int (60), .int (x2)] w [] (by decide +kernel) (by refine qt_iload_n (x := x2) rfl ?_; refine qt_bipush qb_60 ?_; exact qt_z rfl rfl rfl rfl rfl) trivial ?_
  refine s_icmp (cd := .gt) (off := 38) 47 (by decide +kernel) (by decide) (fun hc => ?_) (fun hc => ?_)
  · replace h := h.1 hc
    refine s_blk [(.aload_n 0, 1, 0, 0)] 48 [some (.ref (o0)), some (.ref (2)), some (.int (x2))] [.ref (o0)] w [] (by decide +kernel) (by refine qt_aload_n (r := o0) rfl ?_; exact qt_z rfl rfl rfl rfl rfl) trivial ?_
    obtain ⟨hid, h⟩ := h
    refine s_callV (a := 0) (a' := 0) (As := []) (id := o0) (st := []) kX2_orderByTerm l_2_74 (by decide +kernel) hid rfl (Nat.le_of_ble_eq_true rfl) (s_mono h (s_V_of (fun u4 h => ?_)) (fun _ _ h9 => h9))
    show s_Ex (d + 1) 0 mX2_read 51 [some (.ref (o0)), some (.ref (2)), some (.int (x2))] [] u4 Q X
    exact s_retV (by decide +kernel) rfl h
  · replace h := h.2 hc
    refine s_blk [(.aload_n 1, 1, 0, 0)] 13 [some (.ref (o0)), some (.ref (2)), some (.int (x2))] [.ref (2)] w [] (by decide +kernel) (by refine qt_aload_n (r := 2) rfl ?_; exact qt_z rfl rfl rfl rfl rfl) trivial ?_
    refine s_callV (a := 0) (a' := 0) (As := []) (id := 2) (st := []) kX10_goesOn l_2_60 (by decide +kernel) (q_id_of rfl) rfl (Nat.le_of_ble_eq_true rfl) (s_mono h (s_I_of (fun v5 u6 h => ?_)) (fun _ _ h9 => h9))
    show s_Ex (d + 1) 0 mX2_read 16 [some (.ref (o0)), some (.ref (2)), some (.int (x2))] [.int (v5)] u6 Q X
    refine s_if (cd := .eq) (off := 31) 47 (by decide +kernel) (by decide) (fun hc => ?_) (fun hc => ?_)
    · replace h := h.1 hc
      refine s_blk [(.aload_n 0, 1, 0, 0)] 48 [some (.ref (o0)), some (.ref (2)), some (.int (x2))] [.ref (o0)] u6 [] (by decide +kernel) (by refine qt_aload_n (r := o0) rfl ?_; exact qt_z rfl rfl rfl rfl rfl) trivial ?_
      obtain ⟨hid, h⟩ := h
      refine s_callV (a := 0) (a' := 0) (As := []) (id := o0) (st := []) kX2_orderByTerm l_2_74 (by decide +kernel) hid rfl (Nat.le_of_ble_eq_true rfl) (s_mono h (s_V_of (fun u8 h => ?_)) (fun _ _ h9 => h9))
      show s_Ex (d + 1) 0 mX2_read 51 [some (.ref (o0)), some (.ref (2)), some (.int (x2))] [] u8 Q X
      exact s_retV (by decide +kernel) rfl h
    · replace h := h.2 hc
      refine s_blk [(.aload_n 0, 1, 0, 0), (.aload_n 1, 1, 0, 0), (.iload_n 2, 1, 0, 0), (.bipush 60, 2, 0, 0)] 24 [some (.ref (o0)), some (.ref (2)), some (.int (x2))] [.int (60), .int (x2), .ref (2), .ref (o0)] u6 [] (by decide +kernel) (by refine qt_aload_n (r := o0) rfl ?_; refine qt_aload_n (r := 2) rfl ?_; refine qt_iload_n (x := x2) rfl ?_; refine qt_bipush qb_60 ?_; exact qt_z rfl rfl rfl rfl rfl) trivial ?_
      refine s_icmp (cd := .ge) (off := 7) 31 (by decide +kernel) (by decide) (fun hc => ?_) (fun hc => ?_)
      · replace h := h.1 hc
        refine s_blk [(.iconst 0, 1, 0, 0)] 32 [some (.ref (o0)), some (.ref (2)), some (.int (x2))] [.int (0), .ref (2), .ref (o0)] u6 [] (by decide +kernel) (by refine qt_iconst qc_0 ?_; exact qt_z rfl rfl rfl rfl rfl) trivial ?_
        obtain ⟨hid, h⟩ := h
        refine s_callV (a := 0) (a' := 0) (As := [.ref (2), .int (0)]) (id := o0) (st := []) kX2_readClause l_2_66 (by decide +kernel) hid rfl (Nat.le_of_ble_eq_true rfl) (s_mono h (s_V_of (fun u10 h => ?_)) (fun _ _ h9 => h9))
        show s_Ex (d + 1) 0 mX2_read 35 [some (.ref (o0)), some (.ref (2)), some (.int (x2))] [] u10 Q X
        refine s_blk [(.aload_n 1, 1, 0, 0), (.bipush 59, 2, 0, 0)] 38 [some (.ref (o0)), some (.ref (2)), some (.int (x2))] [.int (59), .ref (2)] u10 [] (by decide +kernel) (by refine qt_aload_n (r := 2) rfl ?_; refine qt_bipush qb_59 ?_; exact qt_z rfl rfl rfl rfl rfl) trivial ?_
        refine s_callV (a := 0) (a' := 0) (As := [.int (59)]) (id := 2) (st := []) kX10_need l_2_70 (by decide +kernel) (q_id_of rfl) rfl (Nat.le_of_ble_eq_true rfl) (s_mono h (s_V_of (fun u12 h => ?_)) (fun _ _ h9 => h9))
        show s_Ex (d + 1) 0 mX2_read 41 [some (.ref (o0)), some (.ref (2)), some (.int (x2))] [] u12 Q X
        refine s_blk [(.iinc 2 1, 3, 0, 0), (.goto (-38), 3, 6, 0)] 6 [some (.ref (o0)), some (.ref (2)), some (.int (x2 + 1))] [] u12 [] (by decide +kernel) (by refine qt_iinc (x := x2) (L' := [some (.ref (o0)), some (.ref (2)), some (.int (x2 + 1))]) rfl qc_1 rfl ?_; refine qt_goto ?_; exact qt_z rfl rfl rfl rfl rfl) trivial ?_
        exact h
      · replace h := h.2 hc
        refine s_blk [(.iconst 1, 1, 0, 0), (.goto 4, 3, 32, 0)] 32 [some (.ref (o0)), some (.ref (2)), some (.int (x2))] [.int (1), .ref (2), .ref (o0)] u6 [] (by decide +kernel) (by refine qt_iconst qc_1 ?_; refine qt_goto ?_; exact qt_z rfl rfl rfl rfl rfl) trivial ?_
        obtain ⟨hid, h⟩ := h
        refine s_callV (a := 0) (a' := 0) (As := [.ref (2), .int (1)]) (id := o0) (st := []) kX2_readClause l_2_66 (by decide +kernel) hid rfl (Nat.le_of_ble_eq_true rfl) (s_mono h (s_V_of (fun u14 h => ?_)) (fun _ _ h9 => h9))
        show s_Ex (d + 1) 0 mX2_read 35 [some (.ref (o0)), some (.ref (2)), some (.int (x2))] [] u14 Q X
        refine s_blk [(.aload_n 1, 1, 0, 0), (.bipush 59, 2, 0, 0)] 38 [some (.ref (o0)), some (.ref (2)), some (.int (x2))] [.int (59), .ref (2)] u14 [] (by decide +kernel) (by refine qt_aload_n (r := 2) rfl ?_; refine qt_bipush qb_59 ?_; exact qt_z rfl rfl rfl rfl rfl) trivial ?_
        refine s_callV (a := 0) (a' := 0) (As := [.int (59)]) (id := 2) (st := []) kX10_need l_2_70 (by decide +kernel) (q_id_of rfl) rfl (Nat.le_of_ble_eq_true rfl) (s_mono h (s_V_of (fun u16 h => ?_)) (fun _ _ h9 => h9))
        show s_Ex (d + 1) 0 mX2_read 41 [some (.ref (o0)), some (.ref (2)), some (.int (x2))] [] u16 Q X
        refine s_blk [(.iinc 2 1, 3, 0, 0), (.goto (-38), 3, 6, 0)] 6 [some (.ref (o0)), some (.ref (2)), some (.int (x2 + 1))] [] u16 [] (by decide +kernel) (by refine qt_iinc (x := x2) (L' := [some (.ref (o0)), some (.ref (2)), some (.int (x2 + 1))]) rfl qc_1 rfl ?_; refine qt_goto ?_; exact qt_z rfl rfl rfl rfl rfl) trivial ?_
        exact h
theorem eX2_read {d : Nat} {o0 : Nat} {w : q_Sm} {Q : s_Po} {X : s_Xo} (h : vX2_read_0 d o0 w Q X) : s_Ev (d + 1) 0 mX2_read w [.ref (o0), .ref (2)] Q X := s_of (by decide) rfl (Nat.le_of_ble_eq_true rfl) (xX2_read_0 h)
def vX2_readClause_0 (d : Nat) (o0 : Nat) (x2 : Int32) (w : q_Sm) (Q : s_Po) (X : s_Xo) : Prop := s_EvV d 0 mX10_word w [.ref (2)] (fun u2 => s_EvI d 0 mX10_startOfLast u2 [.ref (2)] (fun v3 u4 => s_EvI d 0 mX10_was u4 [.ref (2), .retAddr 0] (fun v5 u6 => ((v5 = 0) → s_EvI d 0 mX10_was u6 [.ref (2), .retAddr 1] (fun v7 u8 => ((v7 = 0) → s_EvI d 0 mX10_was u8 [.ref (2), .retAddr 6] (fun v9 u10 => ((v9 = 0) → s_EvI d 0 mX10_was u10 [.ref (2), .retAddr 7] (fun v11 u12 => ((v11 = 0) → s_EvI d 0 mX10_was u12 [.ref (2), .retAddr 8] (fun v13 u14 => ((v13 = 0) → s_EvI d 0 mX10_was u14 [.ref (2), .retAddr 9] (fun v15 u16 => ((v15 = 0) → s_EvI d 0 mX10_was u16 [.ref (2), .retAddr 10] (fun v17 u18 => ((v17 = 0) → s_EvI d 0 mX10_was u18 [.ref (2), .retAddr 11] (fun v19 u20 => ((v19 = 0) → s_EvV d 0 mX10_blame u20 [.ref (2), .int (1), .int (v3)] (fun u22 => Q none u22) X) ∧ (¬ (v19 = 0) → s_EvV d 0 mX2_admit u20 [.ref (2), .int (v3), .int (x2)] (fun u24 => q_id 116 2 o0 ∧ s_EvV d 0 mX2_readLoan u24 [.ref (o0), .ref (2)] (fun u26 => Q none u26) X) X)) X) ∧ (¬ (v17 = 0) → s_EvV d 0 mX2_admit u18 [.ref (2), .int (v3), .int (x2)] (fun u28 => q_id 116 2 o0 ∧ s_EvV d 0 mX2_readFog u28 [.ref (o0), .ref (2)] (fun u30 => Q none u30) X) X)) X) ∧ (¬ (v15 = 0) → ((x2 = 0) → s_EvV d 0 mX2_admit u16 [.ref (2), .int (v3), .int (0)] (fun u32 => q_id 116 2 o0 ∧ s_EvV d 0 mX2_readWedding u32 [.ref (o0), .ref (2)] (fun u34 => Q none u34) X) X) ∧ (¬ (x2 = 0) → (q_id 116 2 o0) ∧ ((6 ≤ (u16.1 o0 14)) → s_EvV d 0 mX2_admit u16 [.ref (2), .int (v3), .int (0)] (fun u36 => q_id 116 2 o0 ∧ s_EvV d 0 mX2_readWedding u36 [.ref (o0), .ref (2)] (fun u38 => Q none u38) X) X) ∧ (¬ (6 ≤ (u16.1 o0 14)) → s_EvV d 0 mX2_admit u16 [.ref (2), .int (v3), .int (1)] (fun u40 => q_id 116 2 o0 ∧ s_EvV d 0 mX2_readWedding u40 [.ref (o0), .ref (2)] (fun u42 => Q none u42) X) X)))) X) ∧ (¬ (v13 = 0) → s_EvV d 0 mX2_admit u14 [.ref (2), .int (v3), .int (x2)] (fun u45 => q_id 116 2 o0 ∧ s_EvV d 0 mX2_readLamp u45 [.ref (o0), .ref (2)] (fun u47 => Q none u47) X) X)) X) ∧ (¬ (v11 = 0) → s_EvV d 0 mX2_admit u12 [.ref (2), .int (v3), .int (x2)] (fun u49 => q_id 116 2 o0 ∧ s_EvV d 0 mX2_readRidge u49 [.ref (o0), .ref (2)] (fun u51 => Q none u51) X) X)) X) ∧ (¬ (v9 = 0) → ((x2 = 0) → s_EvV d 0 mX2_admit u10 [.ref (2), .int (v3), .int (0)] (fun u53 => q_id 116 2 o0 ∧ s_EvV d 0 mX2_readDusk u53 [.ref (o0), .ref (2)] (fun u55 => Q none u55) X) X) ∧ (¬ (x2 = 0) → (q_id 116 2 o0) ∧ ((12 ≤ (u10.1 o0 10)) → s_EvV d 0 mX2_admit u10 [.ref (2), .int (v3), .int (0)] (fun u57 => q_id 116 2 o0 ∧ s_EvV d 0 mX2_readDusk u57 [.ref (o0), .ref (2)] (fun u59 => Q none u59) X) X) ∧ (¬ (12 ≤ (u10.1 o0 10)) → s_EvV d 0 mX2_admit u10 [.ref (2), .int (v3), .int (1)] (fun u61 => q_id 116 2 o0 ∧ s_EvV d 0 mX2_readDusk u61 [.ref (o0), .ref (2)] (fun u63 => Q none u63) X) X)))) X) ∧ (¬ (v7 = 0) → ((x2 = 0) → s_EvV d 0 mX2_admit u8 [.ref (2), .int (v3), .int (0)] (fun u66 => q_id 116 2 o0 ∧ s_EvV d 0 mX2_readDebt u66 [.ref (o0), .ref (2)] (fun u68 => Q none u68) X) X) ∧ (¬ (x2 = 0) → (q_id 116 2 o0) ∧ ((10 ≤ (u8.1 o0 3)) → s_EvV d 0 mX2_admit u8 [.ref (2), .int (v3), .int (0)] (fun u70 => q_id 116 2 o0 ∧ s_EvV d 0 mX2_readDebt u70 [.ref (o0), .ref (2)] (fun u72 => Q none u72) X) X) ∧ (¬ (10 ≤ (u8.1 o0 3)) → s_EvV d 0 mX2_admit u8 [.ref (2), .int (v3), .int (1)] (fun u74 => q_id 116 2 o0 ∧ s_EvV d 0 mX2_readDebt u74 [.ref (o0), .ref (2)] (fun u76 => Q none u76) X) X)))) X) ∧ (¬ (v5 = 0) → ((x2 = 0) → s_EvV d 0 mX2_admit u6 [.ref (2), .int (v3), .int (0)] (fun u79 => q_id 116 2 o0 ∧ s_EvV d 0 mX2_readCreditor u79 [.ref (o0), .ref (2)] (fun u81 => Q none u81) X) X) ∧ (¬ (x2 = 0) → (q_id 116 2 o0) ∧ ((6 ≤ (u6.1 o0 0)) → s_EvV d 0 mX2_admit u6 [.ref (2), .int (v3), .int (0)] (fun u83 => q_id 116 2 o0 ∧ s_EvV d 0 mX2_readCreditor u83 [.ref (o0), .ref (2)] (fun u85 => Q none u85) X) X) ∧ (¬ (6 ≤ (u6.1 o0 0)) → s_EvV d 0 mX2_admit u6 [.ref (2), .int (v3), .int (1)] (fun u87 => q_id 116 2 o0 ∧ s_EvV d 0 mX2_readCreditor u87 [.ref (o0), .ref (2)] (fun u89 => Q none u89) X) X)))) X) X) X
theorem xX2_readClause_0 {d : Nat} {o0 : Nat} {x2 : Int32} {w : q_Sm} {Q : s_Po} {X : s_Xo} (h : vX2_readClause_0 d o0 x2 w Q X) : s_Ex (d + 1) 0 mX2_readClause 0 [some (.ref (o0)), some (.ref (2)), some (.int (x2)), none] [] w Q X := by
  unfold vX2_readClause_0 at h
  refine s_blk [(.aload_n 1, 1, 0, 0)] 1 [some (.ref (o0)), some (.ref (2)), some (.int (x2)), none] [.ref (2)] w [] (by decide +kernel) (by refine qt_aload_n (r := 2) rfl ?_; exact qt_z rfl rfl rfl rfl rfl) trivial ?_
  refine s_callV (a := 0) (a' := 0) (As := []) (id := 2) (st := []) kX10_word l_2_99 (by decide +kernel) (q_id_of rfl) rfl (Nat.le_of_ble_eq_true rfl) (s_mono h (s_V_of (fun u2 h => ?_)) (fun _ _ h9 => h9))
  show s_Ex (d + 1) 0 mX2_readClause 4 [some (.ref (o0)), some (.ref (2)), some (.int (x2)), none] [] u2 Q X
  refine s_blk [(.aload_n 1, 1, 0, 0)] 5 [some (.ref (o0)), some (.ref (2)), some (.int (x2)), none] [.ref (2)] u2 [] (by decide +kernel) (by refine qt_aload_n (r := 2) rfl ?_; exact qt_z rfl rfl rfl rfl rfl) trivial ?_
  refine s_callV (a := 0) (a' := 0) (As := []) (id := 2) (st := []) kX10_startOfLast l_2_102 (by decide +kernel) (q_id_of rfl) rfl (Nat.le_of_ble_eq_true rfl) (s_mono h (s_I_of (fun v3 u4 h => ?_)) (fun _ _ h9 => h9))
  show s_Ex (d + 1) 0 mX2_readClause 8 [some (.ref (o0)), some (.ref (2)), some (.int (x2)), none] [.int (v3)] u4 Q X
  refine s_blk [(.istore_n 3, 1, 0, 0), (.aload_n 1, 1, 0, 0), (.ldc 106, 2, 1, 0)] 12 [some (.ref (o0)), some (.ref (2)), some (.int (x2)), some (.int (v3))] [.retAddr 0, .ref (2)] u4 [] (by decide +kernel) (by refine qt_istore_n (L' := [some (.ref (o0)), some (.ref (2)), some (.int (x2)), some (.int (v3))]) rfl ?_; refine qt_aload_n (r := 2) rfl ?_; refine qt_ldcS ?_; exact qt_z rfl rfl rfl rfl rfl) trivial ?_
  refine s_callV (a := 0) (a' := 0) (As := [.retAddr 0]) (id := 2) (st := []) kX10_was l_2_108 (by decide +kernel) (q_id_of rfl) rfl (Nat.le_of_ble_eq_true rfl) (s_mono h (s_I_of (fun v5 u6 h => ?_)) (fun _ _ h9 => h9))
  show s_Ex (d + 1) 0 mX2_readClause 15 [some (.ref (o0)), some (.ref (2)), some (.int (x2)), some (.int (v3))] [.int (v5)] u6 Q X
  refine s_if (cd := .eq) (off := 34) 49 (by decide +kernel) (by decide) (fun hc => ?_) (fun hc => ?_)
  · replace h := h.1 hc
    refine s_blk [(.aload_n 1, 1, 0, 0), (.ldc 120, 2, 1, 1)] 52 [some (.ref (o0)), some (.ref (2)), some (.int (x2)), some (.int (v3))] [.retAddr 1, .ref (2)] u6 [] (by decide +kernel) (by refine qt_aload_n (r := 2) rfl ?_; refine qt_ldcS ?_; exact qt_z rfl rfl rfl rfl rfl) trivial ?_
    refine s_callV (a := 0) (a' := 0) (As := [.retAddr 1]) (id := 2) (st := []) kX10_was l_2_108 (by decide +kernel) (q_id_of rfl) rfl (Nat.le_of_ble_eq_true rfl) (s_mono h (s_I_of (fun v7 u8 h => ?_)) (fun _ _ h9 => h9))
    show s_Ex (d + 1) 0 mX2_readClause 55 [some (.ref (o0)), some (.ref (2)), some (.int (x2)), some (.int (v3))] [.int (v7)] u8 Q X
    refine s_if (cd := .eq) (off := 34) 89 (by decide +kernel) (by decide) (fun hc => ?_) (fun hc => ?_)
    · replace h := h.1 hc
      refine s_blk [(.aload_n 1, 1, 0, 0), (.ldc 125, 2, 1, 6)] 92 [some (.ref (o0)), some (.ref (2)), some (.int (x2)), some (.int (v3))] [.retAddr 6, .ref (2)] u8 [] (by decide +kernel) (by refine qt_aload_n (r := 2) rfl ?_; refine qt_ldcS ?_; exact qt_z rfl rfl rfl rfl rfl) trivial ?_
      refine s_callV (a := 0) (a' := 0) (As := [.retAddr 6]) (id := 2) (st := []) kX10_was l_2_108 (by decide +kernel) (q_id_of rfl) rfl (Nat.le_of_ble_eq_true rfl) (s_mono h (s_I_of (fun v9 u10 h => ?_)) (fun _ _ h9 => h9))
      show s_Ex (d + 1) 0 mX2_readClause 95 [some (.ref (o0)), some (.ref (2)), some (.int (x2)), some (.int (v3))] [.int (v9)] u10 Q X
      refine s_if (cd := .eq) (off := 34) 129 (by decide +kernel) (by decide) (fun hc => ?_) (fun hc => ?_)
      · replace h := h.1 hc
        refine s_blk [(.aload_n 1, 1, 0, 0), (.ldc 130, 2, 1, 7)] 132 [some (.ref (o0)), some (.ref (2)), some (.int (x2)), some (.int (v3))] [.retAddr 7, .ref (2)] u10 [] (by decide +kernel) (by refine qt_aload_n (r := 2) rfl ?_; refine qt_ldcS ?_; exact qt_z rfl rfl rfl rfl rfl) trivial ?_
        refine s_callV (a := 0) (a' := 0) (As := [.retAddr 7]) (id := 2) (st := []) kX10_was l_2_108 (by decide +kernel) (q_id_of rfl) rfl (Nat.le_of_ble_eq_true rfl) (s_mono h (s_I_of (fun v11 u12 h => ?_)) (fun _ _ h9 => h9))
        show s_Ex (d + 1) 0 mX2_readClause 135 [some (.ref (o0)), some (.ref (2)), some (.int (x2)), some (.int (v3))] [.int (v11)] u12 Q X
        refine s_if (cd := .eq) (off := 17) 152 (by decide +kernel) (by decide) (fun hc => ?_) (fun hc => ?_)
        · replace h := h.1 hc
          refine s_blk [(.aload_n 1, 1, 0, 0), (.ldc 134, 2, 1, 8)] 155 [some (.ref (o0)), some (.ref (2)), some (.int (x2)), some (.int (v3))] [.retAddr 8, .ref (2)] u12 [] (by decide +kernel) (by refine qt_aload_n (r := 2) rfl ?_; refine qt_ldcS ?_; exact qt_z rfl rfl rfl rfl rfl) trivial ?_
          refine s_callV (a := 0) (a' := 0) (As := [.retAddr 8]) (id := 2) (st := []) kX10_was l_2_108 (by decide +kernel) (q_id_of rfl) rfl (Nat.le_of_ble_eq_true rfl) (s_mono h (s_I_of (fun v13 u14 h => ?_)) (fun _ _ h9 => h9))
          show s_Ex (d + 1) 0 mX2_readClause 158 [some (.ref (o0)), some (.ref (2)), some (.int (x2)), some (.int (v3))] [.int (v13)] u14 Q X
          refine s_if (cd := .eq) (off := 17) 175 (by decide +kernel) (by decide) (fun hc => ?_) (fun hc => ?_)
          · replace h := h.1 hc
            refine s_blk [(.aload_n 1, 1, 0, 0), (.ldc 138, 2, 1, 9)] 178 [some (.ref (o0)), some (.ref (2)), some (.int (x2)), some (.int (v3))] [.retAddr 9, .ref (2)] u14 [] (by decide +kernel) (by refine qt_aload_n (r := 2) rfl ?_; refine qt_ldcS ?_; exact qt_z rfl rfl rfl rfl rfl) trivial ?_
            refine s_callV (a := 0) (a' := 0) (As := [.retAddr 9]) (id := 2) (st := []) kX10_was l_2_108 (by decide +kernel) (q_id_of rfl) rfl (Nat.le_of_ble_eq_true rfl) (s_mono h (s_I_of (fun v15 u16 h => ?_)) (fun _ _ h9 => h9))
            show s_Ex (d + 1) 0 mX2_readClause 181 [some (.ref (o0)), some (.ref (2)), some (.int (x2)), some (.int (v3))] [.int (v15)] u16 Q X
            refine s_if (cd := .eq) (off := 34) 215 (by decide +kernel) (by decide) (fun hc => ?_) (fun hc => ?_)
            · replace h := h.1 hc
              refine s_blk [(.aload_n 1, 1, 0, 0), (.ldc 143, 2, 1, 10)] 218 [some (.ref (o0)), some (.ref (2)), some (.int (x2)), some (.int (v3))] [.retAddr 10, .ref (2)] u16 [] (by decide +kernel) (by refine qt_aload_n (r := 2) rfl ?_; refine qt_ldcS ?_; exact qt_z rfl rfl rfl rfl rfl) trivial ?_
              refine s_callV (a := 0) (a' := 0) (As := [.retAddr 10]) (id := 2) (st := []) kX10_was l_2_108 (by decide +kernel) (q_id_of rfl) rfl (Nat.le_of_ble_eq_true rfl) (s_mono h (s_I_of (fun v17 u18 h => ?_)) (fun _ _ h9 => h9))
              show s_Ex (d + 1) 0 mX2_readClause 221 [some (.ref (o0)), some (.ref (2)), some (.int (x2)), some (.int (v3))] [.int (v17)] u18 Q X
              refine s_if (cd := .eq) (off := 17) 238 (by decide +kernel) (by decide) (fun hc => ?_) (fun hc => ?_)
              · replace h := h.1 hc
                refine s_blk [(.aload_n 1, 1, 0, 0), (.ldc 147, 2, 1, 11)] 241 [some (.ref (o0)), some (.ref (2)), some (.int (x2)), some (.int (v3))] [.retAddr 11, .ref (2)] u18 [] (by decide +kernel) (by refine qt_aload_n (r := 2) rfl ?_; refine qt_ldcS ?_; exact qt_z rfl rfl rfl rfl rfl) trivial ?_
                refine s_callV (a := 0) (a' := 0) (As := [.retAddr 11]) (id := 2) (st := []) kX10_was l_2_108 (by decide +kernel) (q_id_of rfl) rfl (Nat.le_of_ble_eq_true rfl) (s_mono h (s_I_of (fun v19 u20 h => ?_)) (fun _ _ h9 => h9))
                show s_Ex (d + 1) 0 mX2_readClause 244 [some (.ref (o0)), some (.ref (2)), some (.int (x2)), some (.int (v3))] [.int (v19)] u20 Q X
                refine s_if (cd := .eq) (off := 17) 261 (by decide +kernel) (by decide) (fun hc => ?_) (fun hc => ?_)
                · replace h := h.1 hc
                  refine s_blk [(.aload_n 1, 1, 0, 0), (.iconst 1, 1, 0, 0), (.iload_n 3, 1, 0, 0)] 264 [some (.ref (o0)), some (.ref (2)), some (.int (x2)), some (.int (v3))] [.int (v3), .int (1), .ref (2)] u20 [] (by decide +kernel) (by refine qt_aload_n (r := 2) rfl ?_; refine qt_iconst qc_1 ?_; refine qt_iload_n (x := v3) rfl ?_; exact qt_z rfl rfl rfl rfl rfl) trivial ?_
                  refine s_callV (a := 0) (a' := 0) (As := [.int (1), .int (v3)]) (id := 2) (st := []) kX10_blame l_2_152 (by decide +kernel) (q_id_of rfl) rfl (Nat.le_of_ble_eq_true rfl) (s_mono h (s_V_of (fun u22 h => ?_)) (fun _ _ h9 => h9))
                  show s_Ex (d + 1) 0 mX2_readClause 267 [some (.ref (o0)), some (.ref (2)), some (.int (x2)), some (.int (v3))] [] u22 Q X
                  exact s_retV (by decide +kernel) rfl h
                · replace h := h.2 hc
                  refine s_blk [(.aload_n 1, 1, 0, 0), (.iload_n 3, 1, 0, 0), (.iload_n 2, 1, 0, 0)] 250 [some (.ref (o0)), some (.ref (2)), some (.int (x2)), some (.int (v3))] [.int (x2), .int (v3), .ref (2)] u20 [] (by decide +kernel) (by refine qt_aload_n (r := 2) rfl ?_; refine qt_iload_n (x := v3) rfl ?_; refine qt_iload_n (x := x2) rfl ?_; exact qt_z rfl rfl rfl rfl rfl) trivial ?_
                  refine s_callS (a := 0) (a' := 0) (As := [.ref (2), .int (v3), .int (x2)]) (st := []) kX2_admit l_2_112 (by decide +kernel) rfl (Nat.le_of_ble_eq_true rfl) (s_mono h (s_V_of (fun u24 h => ?_)) (fun _ _ h9 => h9))
                  show s_Ex (d + 1) 0 mX2_readClause 253 [some (.ref (o0)), some (.ref (2)), some (.int (x2)), some (.int (v3))] [] u24 Q X
                  refine s_blk [(.aload_n 0, 1, 0, 0), (.aload_n 1, 1, 0, 0)] 255 [some (.ref (o0)), some (.ref (2)), some (.int (x2)), some (.int (v3))] [.ref (2), .ref (o0)] u24 [] (by decide +kernel) (by refine qt_aload_n (r := o0) rfl ?_; refine qt_aload_n (r := 2) rfl ?_; exact qt_z rfl rfl rfl rfl rfl) trivial ?_
                  obtain ⟨hid, h⟩ := h
                  refine s_callV (a := 0) (a' := 0) (As := [.ref (2)]) (id := o0) (st := []) kX2_readLoan l_2_149 (by decide +kernel) hid rfl (Nat.le_of_ble_eq_true rfl) (s_mono h (s_V_of (fun u26 h => ?_)) (fun _ _ h9 => h9))
                  show s_Ex (d + 1) 0 mX2_readClause 258 [some (.ref (o0)), some (.ref (2)), some (.int (x2)), some (.int (v3))] [] u26 Q X
                  refine s_blk [(.goto 9, 3, 267, 0)] 267 [some (.ref (o0)), some (.ref (2)), some (.int (x2)), some (.int (v3))] [] u26 [] (by decide +kernel) (by refine qt_goto ?_; exact qt_z rfl rfl rfl rfl rfl) trivial ?_
                  exact s_retV (by decide +kernel) rfl h
              · replace h := h.2 hc
                refine s_blk [(.aload_n 1, 1, 0, 0), (.iload_n 3, 1, 0, 0), (.iload_n 2, 1, 0, 0)] 227 [some (.ref (o0)), some (.ref (2)), some (.int (x2)), some (.int (v3))] [.int (x2), .int (v3), .ref (2)] u18 [] (by decide +kernel) (by refine qt_aload_n (r := 2) rfl ?_; refine qt_iload_n (x := v3) rfl ?_; refine qt_iload_n (x := x2) rfl ?_; exact qt_z rfl rfl rfl rfl rfl) trivial ?_
                refine s_callS (a := 0) (a' := 0) (As := [.ref (2), .int (v3), .int (x2)]) (st := []) kX2_admit l_2_112 (by decide +kernel) rfl (Nat.le_of_ble_eq_true rfl) (s_mono h (s_V_of (fun u28 h => ?_)) (fun _ _ h9 => h9))
                show s_Ex (d + 1) 0 mX2_readClause 230 [some (.ref (o0)), some (.ref (2)), some (.int (x2)), some (.int (v3))] [] u28 Q X
                refine s_blk [(.aload_n 0, 1, 0, 0), (.aload_n 1, 1, 0, 0)] 232 [some (.ref (o0)), some (.ref (2)), some (.int (x2)), some (.int (v3))] [.ref (2), .ref (o0)] u28 [] (by decide +kernel) (by refine qt_aload_n (r := o0) rfl ?_; refine qt_aload_n (r := 2) rfl ?_; exact qt_z rfl rfl rfl rfl rfl) trivial ?_
                obtain ⟨hid, h⟩ := h
                refine s_callV (a := 0) (a' := 0) (As := [.ref (2)]) (id := o0) (st := []) kX2_readFog l_2_144 (by decide +kernel) hid rfl (Nat.le_of_ble_eq_true rfl) (s_mono h (s_V_of (fun u30 h => ?_)) (fun _ _ h9 => h9))
                show s_Ex (d + 1) 0 mX2_readClause 235 [some (.ref (o0)), some (.ref (2)), some (.int (x2)), some (.int (v3))] [] u30 Q X
                refine s_blk [(.goto 32, 3, 267, 0)] 267 [some (.ref (o0)), some (.ref (2)), some (.int (x2)), some (.int (v3))] [] u30 [] (by decide +kernel) (by refine qt_goto ?_; exact qt_z rfl rfl rfl rfl rfl) trivial ?_
                exact s_retV (by decide +kernel) rfl h
            · replace h := h.2 hc
              refine s_blk [(.aload_n 1, 1, 0, 0), (.iload_n 3, 1, 0, 0), (.iload_n 2, 1, 0, 0)] 187 [some (.ref (o0)), some (.ref (2)), some (.int (x2)), some (.int (v3))] [.int (x2), .int (v3), .ref (2)] u16 [] (by decide +kernel) (by refine qt_aload_n (r := 2) rfl ?_; refine qt_iload_n (x := v3) rfl ?_; refine qt_iload_n (x := x2) rfl ?_; exact qt_z rfl rfl rfl rfl rfl) trivial ?_
              refine s_if (cd := .eq) (off := 16) 203 (by decide +kernel) (by decide) (fun hc => ?_) (fun hc => ?_)
              · replace h := h.1 hc
                refine s_blk [(.iconst 0, 1, 0, 0)] 204 [some (.ref (o0)), some (.ref (2)), some (.int (x2)), some (.int (v3))] [.int (0), .int (v3), .ref (2)] u16 [] (by decide +kernel) (by refine qt_iconst qc_0 ?_; exact qt_z rfl rfl rfl rfl rfl) trivial ?_
                refine s_callS (a := 0) (a' := 0) (As := [.ref (2), .int (v3), .int (0)]) (st := []) kX2_admit l_2_112 (by decide +kernel) rfl (Nat.le_of_ble_eq_true rfl) (s_mono h (s_V_of (fun u32 h => ?_)) (fun _ _ h9 => h9))
                show s_Ex (d + 1) 0 mX2_readClause 207 [some (.ref (o0)), some (.ref (2)), some (.int (x2)), some (.int (v3))] [] u32 Q X
                refine s_blk [(.aload_n 0, 1, 0, 0), (.aload_n 1, 1, 0, 0)] 209 [some (.ref (o0)), some (.ref (2)), some (.int (x2)), some (.int (v3))] [.ref (2), .ref (o0)] u32 [] (by decide +kernel) (by refine qt_aload_n (r := o0) rfl ?_; refine qt_aload_n (r := 2) rfl ?_; exact qt_z rfl rfl rfl rfl rfl) trivial ?_
                obtain ⟨hid, h⟩ := h
                refine s_callV (a := 0) (a' := 0) (As := [.ref (2)]) (id := o0) (st := []) kX2_readWedding l_2_140 (by decide +kernel) hid rfl (Nat.le_of_ble_eq_true rfl) (s_mono h (s_V_of (fun u34 h => ?_)) (fun _ _ h9 => h9))
                show s_Ex (d + 1) 0 mX2_readClause 212 [some (.ref (o0)), some (.ref (2)), some (.int (x2)), some (.int (v3))] [] u34 Q X
                refine s_blk [(.goto 55, 3, 267, 0)] 267 [some (.ref (o0)), some (.ref (2)), some (.int (x2)), some (.int (v3))] [] u34 [] (by decide +kernel) (by refine qt_goto ?_; exact qt_z rfl rfl rfl rfl rfl) trivial ?_
                exact s_retV (by decide +kernel) rfl h
              · replace h := h.2 hc
                obtain ⟨ho43, h⟩ := h
                refine s_blk [(.aload_n 0, 1, 0, 0), (.getfield 87, 3, 2, 14), (.bipush 6, 2, 0, 0)] 196 [some (.ref (o0)), some (.ref (2)), some (.int (x2)), some (.int (v3))] [.int (6), .int (u16.1 o0 14), .int (v3), .ref (2)] u16 [q_id 116 2 o0] (by decide +kernel) (by refine qt_aload_n (r := o0) rfl ?_; refine qt_getI rfl ?_; refine qt_bipush qb_6 ?_; exact qt_z rfl rfl rfl rfl rfl) ho43 ?_
                refine s_icmp (cd := .ge) (off := 7) 203 (by decide +kernel) (by decide) (fun hc => ?_) (fun hc => ?_)
                · replace h := h.1 hc
                  refine s_blk [(.iconst 0, 1, 0, 0)] 204 [some (.ref (o0)), some (.ref (2)), some (.int (x2)), some (.int (v3))] [.int (0), .int (v3), .ref (2)] u16 [] (by decide +kernel) (by refine qt_iconst qc_0 ?_; exact qt_z rfl rfl rfl rfl rfl) trivial ?_
                  refine s_callS (a := 0) (a' := 0) (As := [.ref (2), .int (v3), .int (0)]) (st := []) kX2_admit l_2_112 (by decide +kernel) rfl (Nat.le_of_ble_eq_true rfl) (s_mono h (s_V_of (fun u36 h => ?_)) (fun _ _ h9 => h9))
                  show s_Ex (d + 1) 0 mX2_readClause 207 [some (.ref (o0)), some (.ref (2)), some (.int (x2)), some (.int (v3))] [] u36 Q X
                  refine s_blk [(.aload_n 0, 1, 0, 0), (.aload_n 1, 1, 0, 0)] 209 [some (.ref (o0)), some (.ref (2)), some (.int (x2)), some (.int (v3))] [.ref (2), .ref (o0)] u36 [] (by decide +kernel) (by refine qt_aload_n (r := o0) rfl ?_; refine qt_aload_n (r := 2) rfl ?_; exact qt_z rfl rfl rfl rfl rfl) trivial ?_
                  obtain ⟨hid, h⟩ := h
                  refine s_callV (a := 0) (a' := 0) (As := [.ref (2)]) (id := o0) (st := []) kX2_readWedding l_2_140 (by decide +kernel) hid rfl (Nat.le_of_ble_eq_true rfl) (s_mono h (s_V_of (fun u38 h => ?_)) (fun _ _ h9 => h9))
                  show s_Ex (d + 1) 0 mX2_readClause 212 [some (.ref (o0)), some (.ref (2)), some (.int (x2)), some (.int (v3))] [] u38 Q X
                  refine s_blk [(.goto 55, 3, 267, 0)] 267 [some (.ref (o0)), some (.ref (2)), some (.int (x2)), some (.int (v3))] [] u38 [] (by decide +kernel) (by refine qt_goto ?_; exact qt_z rfl rfl rfl rfl rfl) trivial ?_
                  exact s_retV (by decide +kernel) rfl h
                · replace h := h.2 hc
                  refine s_blk [(.iconst 1, 1, 0, 0), (.goto 4, 3, 204, 0)] 204 [some (.ref (o0)), some (.ref (2)), some (.int (x2)), some (.int (v3))] [.int (1), .int (v3), .ref (2)] u16 [] (by decide +kernel) (by refine qt_iconst qc_1 ?_; refine qt_goto ?_; exact qt_z rfl rfl rfl rfl rfl) trivial ?_
                  refine s_callS (a := 0) (a' := 0) (As := [.ref (2), .int (v3), .int (1)]) (st := []) kX2_admit l_2_112 (by decide +kernel) rfl (Nat.le_of_ble_eq_true rfl) (s_mono h (s_V_of (fun u40 h => ?_)) (fun _ _ h9 => h9))
                  show s_Ex (d + 1) 0 mX2_readClause 207 [some (.ref (o0)), some (.ref (2)), some (.int (x2)), some (.int (v3))] [] u40 Q X
                  refine s_blk [(.aload_n 0, 1, 0, 0), (.aload_n 1, 1, 0, 0)] 209 [some (.ref (o0)), some (.ref (2)), some (.int (x2)), some (.int (v3))] [.ref (2), .ref (o0)] u40 [] (by decide +kernel) (by refine qt_aload_n (r := o0) rfl ?_; refine qt_aload_n (r := 2) rfl ?_; exact qt_z rfl rfl rfl rfl rfl) trivial ?_
                  obtain ⟨hid, h⟩ := h
                  refine s_callV (a := 0) (a' := 0) (As := [.ref (2)]) (id := o0) (st := []) kX2_readWedding l_2_140 (by decide +kernel) hid rfl (Nat.le_of_ble_eq_true rfl) (s_mono h (s_V_of (fun u42 h => ?_)) (fun _ _ h9 => h9))
                  show s_Ex (d + 1) 0 mX2_readClause 212 [some (.ref (o0)), some (.ref (2)), some (.int (x2)), some (.int (v3))] [] u42 Q X
                  refine s_blk [(.goto 55, 3, 267, 0)] 267 [some (.ref (o0)), some (.ref (2)), some (.int (x2)), some (.int (v3))] [] u42 [] (by decide +kernel) (by refine qt_goto ?_; exact qt_z rfl rfl rfl rfl rfl) trivial ?_
                  exact s_retV (by decide +kernel) rfl h
          · replace h := h.2 hc
            refine s_blk [(.aload_n 1, 1, 0, 0), (.iload_n 3, 1, 0, 0), (.iload_n 2, 1, 0, 0)] 164 [some (.ref (o0)), some (.ref (2)), some (.int (x2)), some (.int (v3))] [.int (x2), .int (v3), .ref (2)] u14 [] (by decide +kernel) (by refine qt_aload_n (r := 2) rfl ?_; refine qt_iload_n (x := v3) rfl ?_; refine qt_iload_n (x := x2) rfl ?_; exact qt_z rfl rfl rfl rfl rfl) trivial ?_
            refine s_callS (a := 0) (a' := 0) (As := [.ref (2), .int (v3), .int (x2)]) (st := []) kX2_admit l_2_112 (by decide +kernel) rfl (Nat.le_of_ble_eq_true rfl) (s_mono h (s_V_of (fun u45 h => ?_)) (fun _ _ h9 => h9))
            show s_Ex (d + 1) 0 mX2_readClause 167 [some (.ref (o0)), some (.ref (2)), some (.int (x2)), some (.int (v3))] [] u45 Q X
            refine s_blk [(.aload_n 0, 1, 0, 0), (.aload_n 1, 1, 0, 0)] 169 [some (.ref (o0)), some (.ref (2)), some (.int (x2)), some (.int (v3))] [.ref (2), .ref (o0)] u45 [] (by decide +kernel) (by refine qt_aload_n (r := o0) rfl ?_; refine qt_aload_n (r := 2) rfl ?_; exact qt_z rfl rfl rfl rfl rfl) trivial ?_
            obtain ⟨hid, h⟩ := h
            refine s_callV (a := 0) (a' := 0) (As := [.ref (2)]) (id := o0) (st := []) kX2_readLamp l_2_135 (by decide +kernel) hid rfl (Nat.le_of_ble_eq_true rfl) (s_mono h (s_V_of (fun u47 h => ?_)) (fun _ _ h9 => h9))
            show s_Ex (d + 1) 0 mX2_readClause 172 [some (.ref (o0)), some (.ref (2)), some (.int (x2)), some (.int (v3))] [] u47 Q X
            refine s_blk [(.goto 95, 3, 267, 0)] 267 [some (.ref (o0)), some (.ref (2)), some (.int (x2)), some (.int (v3))] [] u47 [] (by decide +kernel) (by refine qt_goto ?_; exact qt_z rfl rfl rfl rfl rfl) trivial ?_
            exact s_retV (by decide +kernel) rfl h
        · replace h := h.2 hc
          refine s_blk [(.aload_n 1, 1, 0, 0), (.iload_n 3, 1, 0, 0), (.iload_n 2, 1, 0, 0)] 141 [some (.ref (o0)), some (.ref (2)), some (.int (x2)), some (.int (v3))] [.int (x2), .int (v3), .ref (2)] u12 [] (by decide +kernel) (by refine qt_aload_n (r := 2) rfl ?_; refine qt_iload_n (x := v3) rfl ?_; refine qt_iload_n (x := x2) rfl ?_; exact qt_z rfl rfl rfl rfl rfl) trivial ?_
          refine s_callS (a := 0) (a' := 0) (As := [.ref (2), .int (v3), .int (x2)]) (st := []) kX2_admit l_2_112 (by decide +kernel) rfl (Nat.le_of_ble_eq_true rfl) (s_mono h (s_V_of (fun u49 h => ?_)) (fun _ _ h9 => h9))
          show s_Ex (d + 1) 0 mX2_readClause 144 [some (.ref (o0)), some (.ref (2)), some (.int (x2)), some (.int (v3))] [] u49 Q X
          refine s_blk [(.aload_n 0, 1, 0, 0), (.aload_n 1, 1, 0, 0)] 146 [some (.ref (o0)), some (.ref (2)), some (.int (x2)), some (.int (v3))] [.ref (2), .ref (o0)] u49 [] (by decide +kernel) (by refine qt_aload_n (r := o0) rfl ?_; refine qt_aload_n (r := 2) rfl ?_; exact qt_z rfl rfl rfl rfl rfl) trivial ?_
          obtain ⟨hid, h⟩ := h
          refine s_callV (a := 0) (a' := 0) (As := [.ref (2)]) (id := o0) (st := []) kX2_readRidge l_2_131 (by decide +kernel) hid rfl (Nat.le_of_ble_eq_true rfl) (s_mono h (s_V_of (fun u51 h => ?_)) (fun _ _ h9 => h9))
          show s_Ex (d + 1) 0 mX2_readClause 149 [some (.ref (o0)), some (.ref (2)), some (.int (x2)), some (.int (v3))] [] u51 Q X
          refine s_blk [(.goto 118, 3, 267, 0)] 267 [some (.ref (o0)), some (.ref (2)), some (.int (x2)), some (.int (v3))] [] u51 [] (by decide +kernel) (by refine qt_goto ?_; exact qt_z rfl rfl rfl rfl rfl) trivial ?_
          exact s_retV (by decide +kernel) rfl h
      · replace h := h.2 hc
        refine s_blk [(.aload_n 1, 1, 0, 0), (.iload_n 3, 1, 0, 0), (.iload_n 2, 1, 0, 0)] 101 [some (.ref (o0)), some (.ref (2)), some (.int (x2)), some (.int (v3))] [.int (x2), .int (v3), .ref (2)] u10 [] (by decide +kernel) (by refine qt_aload_n (r := 2) rfl ?_; refine qt_iload_n (x := v3) rfl ?_; refine qt_iload_n (x := x2) rfl ?_; exact qt_z rfl rfl rfl rfl rfl) trivial ?_
        refine s_if (cd := .eq) (off := 16) 117 (by decide +kernel) (by decide) (fun hc => ?_) (fun hc => ?_)
        · replace h := h.1 hc
          refine s_blk [(.iconst 0, 1, 0, 0)] 118 [some (.ref (o0)), some (.ref (2)), some (.int (x2)), some (.int (v3))] [.int (0), .int (v3), .ref (2)] u10 [] (by decide +kernel) (by refine qt_iconst qc_0 ?_; exact qt_z rfl rfl rfl rfl rfl) trivial ?_
          refine s_callS (a := 0) (a' := 0) (As := [.ref (2), .int (v3), .int (0)]) (st := []) kX2_admit l_2_112 (by decide +kernel) rfl (Nat.le_of_ble_eq_true rfl) (s_mono h (s_V_of (fun u53 h => ?_)) (fun _ _ h9 => h9))
          show s_Ex (d + 1) 0 mX2_readClause 121 [some (.ref (o0)), some (.ref (2)), some (.int (x2)), some (.int (v3))] [] u53 Q X
          refine s_blk [(.aload_n 0, 1, 0, 0), (.aload_n 1, 1, 0, 0)] 123 [some (.ref (o0)), some (.ref (2)), some (.int (x2)), some (.int (v3))] [.ref (2), .ref (o0)] u53 [] (by decide +kernel) (by refine qt_aload_n (r := o0) rfl ?_; refine qt_aload_n (r := 2) rfl ?_; exact qt_z rfl rfl rfl rfl rfl) trivial ?_
          obtain ⟨hid, h⟩ := h
          refine s_callV (a := 0) (a' := 0) (As := [.ref (2)]) (id := o0) (st := []) kX2_readDusk l_2_127 (by decide +kernel) hid rfl (Nat.le_of_ble_eq_true rfl) (s_mono h (s_V_of (fun u55 h => ?_)) (fun _ _ h9 => h9))
          show s_Ex (d + 1) 0 mX2_readClause 126 [some (.ref (o0)), some (.ref (2)), some (.int (x2)), some (.int (v3))] [] u55 Q X
          refine s_blk [(.goto 141, 3, 267, 0)] 267 [some (.ref (o0)), some (.ref (2)), some (.int (x2)), some (.int (v3))] [] u55 [] (by decide +kernel) (by refine qt_goto ?_; exact qt_z rfl rfl rfl rfl rfl) trivial ?_
          exact s_retV (by decide +kernel) rfl h
        · replace h := h.2 hc
          obtain ⟨ho64, h⟩ := h
          refine s_blk [(.aload_n 0, 1, 0, 0), (.getfield 84, 3, 2, 10), (.bipush 12, 2, 0, 0)] 110 [some (.ref (o0)), some (.ref (2)), some (.int (x2)), some (.int (v3))] [.int (12), .int (u10.1 o0 10), .int (v3), .ref (2)] u10 [q_id 116 2 o0] (by decide +kernel) (by refine qt_aload_n (r := o0) rfl ?_; refine qt_getI rfl ?_; refine qt_bipush qb_12 ?_; exact qt_z rfl rfl rfl rfl rfl) ho64 ?_
          refine s_icmp (cd := .ge) (off := 7) 117 (by decide +kernel) (by decide) (fun hc => ?_) (fun hc => ?_)
          · replace h := h.1 hc
            refine s_blk [(.iconst 0, 1, 0, 0)] 118 [some (.ref (o0)), some (.ref (2)), some (.int (x2)), some (.int (v3))] [.int (0), .int (v3), .ref (2)] u10 [] (by decide +kernel) (by refine qt_iconst qc_0 ?_; exact qt_z rfl rfl rfl rfl rfl) trivial ?_
            refine s_callS (a := 0) (a' := 0) (As := [.ref (2), .int (v3), .int (0)]) (st := []) kX2_admit l_2_112 (by decide +kernel) rfl (Nat.le_of_ble_eq_true rfl) (s_mono h (s_V_of (fun u57 h => ?_)) (fun _ _ h9 => h9))
            show s_Ex (d + 1) 0 mX2_readClause 121 [some (.ref (o0)), some (.ref (2)), some (.int (x2)), some (.int (v3))] [] u57 Q X
            refine s_blk [(.aload_n 0, 1, 0, 0), (.aload_n 1, 1, 0, 0)] 123 [some (.ref (o0)), some (.ref (2)), some (.int (x2)), some (.int (v3))] [.ref (2), .ref (o0)] u57 [] (by decide +kernel) (by refine qt_aload_n (r := o0) rfl ?_; refine qt_aload_n (r := 2) rfl ?_; exact qt_z rfl rfl rfl rfl rfl) trivial ?_
            obtain ⟨hid, h⟩ := h
            refine s_callV (a := 0) (a' := 0) (As := [.ref (2)]) (id := o0) (st := []) kX2_readDusk l_2_127 (by decide +kernel) hid rfl (Nat.le_of_ble_eq_true rfl) (s_mono h (s_V_of (fun u59 h => ?_)) (fun _ _ h9 => h9))
            show s_Ex (d + 1) 0 mX2_readClause 126 [some (.ref (o0)), some (.ref (2)), some (.int (x2)), some (.int (v3))] [] u59 Q X
            refine s_blk [(.goto 141, 3, 267, 0)] 267 [some (.ref (o0)), some (.ref (2)), some (.int (x2)), some (.int (v3))] [] u59 [] (by decide +kernel) (by refine qt_goto ?_; exact qt_z rfl rfl rfl rfl rfl) trivial ?_
            exact s_retV (by decide +kernel) rfl h
          · replace h := h.2 hc
            refine s_blk [(.iconst 1, 1, 0, 0), (.goto 4, 3, 118, 0)] 118 [some (.ref (o0)), some (.ref (2)), some (.int (x2)), some (.int (v3))] [.int (1), .int (v3), .ref (2)] u10 [] (by decide +kernel) (by refine qt_iconst qc_1 ?_; refine qt_goto ?_; exact qt_z rfl rfl rfl rfl rfl) trivial ?_
            refine s_callS (a := 0) (a' := 0) (As := [.ref (2), .int (v3), .int (1)]) (st := []) kX2_admit l_2_112 (by decide +kernel) rfl (Nat.le_of_ble_eq_true rfl) (s_mono h (s_V_of (fun u61 h => ?_)) (fun _ _ h9 => h9))
            show s_Ex (d + 1) 0 mX2_readClause 121 [some (.ref (o0)), some (.ref (2)), some (.int (x2)), some (.int (v3))] [] u61 Q X
            refine s_blk [(.aload_n 0, 1, 0, 0), (.aload_n 1, 1, 0, 0)] 123 [some (.ref (o0)), some (.ref (2)), some (.int (x2)), some (.int (v3))] [.ref (2), .ref (o0)] u61 [] (by decide +kernel) (by refine qt_aload_n (r := o0) rfl ?_; refine qt_aload_n (r := 2) rfl ?_; exact qt_z rfl rfl rfl rfl rfl) trivial ?_
            obtain ⟨hid, h⟩ := h
            refine s_callV (a := 0) (a' := 0) (As := [.ref (2)]) (id := o0) (st := []) kX2_readDusk l_2_127 (by decide +kernel) hid rfl (Nat.le_of_ble_eq_true rfl) (s_mono h (s_V_of (fun u63 h => ?_)) (fun _ _ h9 => h9))
            show s_Ex (d + 1) 0 mX2_readClause 126 [some (.ref (o0)), some (.ref (2)), some (.int (x2)), some (.int (v3))] [] u63 Q X
            refine s_blk [(.goto 141, 3, 267, 0)] 267 [some (.ref (o0)), some (.ref (2)), some (.int (x2)), some (.int (v3))] [] u63 [] (by decide +kernel) (by refine qt_goto ?_; exact qt_z rfl rfl rfl rfl rfl) trivial ?_
            exact s_retV (by decide +kernel) rfl h
    · replace h := h.2 hc
      refine s_blk [(.aload_n 1, 1, 0, 0), (.iload_n 3, 1, 0, 0), (.iload_n 2, 1, 0, 0)] 61 [some (.ref (o0)), some (.ref (2)), some (.int (x2)), some (.int (v3))] [.int (x2), .int (v3), .ref (2)] u8 [] (by decide +kernel) (by refine qt_aload_n (r := 2) rfl ?_; refine qt_iload_n (x := v3) rfl ?_; refine qt_iload_n (x := x2) rfl ?_; exact qt_z rfl rfl rfl rfl rfl) trivial ?_
      refine s_if (cd := .eq) (off := 16) 77 (by decide +kernel) (by decide) (fun hc => ?_) (fun hc => ?_)
      · replace h := h.1 hc
        refine s_blk [(.iconst 0, 1, 0, 0)] 78 [some (.ref (o0)), some (.ref (2)), some (.int (x2)), some (.int (v3))] [.int (0), .int (v3), .ref (2)] u8 [] (by decide +kernel) (by refine qt_iconst qc_0 ?_; exact qt_z rfl rfl rfl rfl rfl) trivial ?_
        refine s_callS (a := 0) (a' := 0) (As := [.ref (2), .int (v3), .int (0)]) (st := []) kX2_admit l_2_112 (by decide +kernel) rfl (Nat.le_of_ble_eq_true rfl) (s_mono h (s_V_of (fun u66 h => ?_)) (fun _ _ h9 => h9))
        show s_Ex (d + 1) 0 mX2_readClause 81 [some (.ref (o0)), some (.ref (2)), some (.int (x2)), some (.int (v3))] [] u66 Q X
        refine s_blk [(.aload_n 0, 1, 0, 0), (.aload_n 1, 1, 0, 0)] 83 [some (.ref (o0)), some (.ref (2)), some (.int (x2)), some (.int (v3))] [.ref (2), .ref (o0)] u66 [] (by decide +kernel) (by refine qt_aload_n (r := o0) rfl ?_; refine qt_aload_n (r := 2) rfl ?_; exact qt_z rfl rfl rfl rfl rfl) trivial ?_
        obtain ⟨hid, h⟩ := h
        refine s_callV (a := 0) (a' := 0) (As := [.ref (2)]) (id := o0) (st := []) kX2_readDebt l_2_122 (by decide +kernel) hid rfl (Nat.le_of_ble_eq_true rfl) (s_mono h (s_V_of (fun u68 h => ?_)) (fun _ _ h9 => h9))
        show s_Ex (d + 1) 0 mX2_readClause 86 [some (.ref (o0)), some (.ref (2)), some (.int (x2)), some (.int (v3))] [] u68 Q X
        refine s_blk [(.goto 181, 3, 267, 0)] 267 [some (.ref (o0)), some (.ref (2)), some (.int (x2)), some (.int (v3))] [] u68 [] (by decide +kernel) (by refine qt_goto ?_; exact qt_z rfl rfl rfl rfl rfl) trivial ?_
        exact s_retV (by decide +kernel) rfl h
      · replace h := h.2 hc
        obtain ⟨ho77, h⟩ := h
        refine s_blk [(.aload_n 0, 1, 0, 0), (.getfield 81, 3, 2, 3), (.bipush 10, 2, 0, 0)] 70 [some (.ref (o0)), some (.ref (2)), some (.int (x2)), some (.int (v3))] [.int (10), .int (u8.1 o0 3), .int (v3), .ref (2)] u8 [q_id 116 2 o0] (by decide +kernel) (by refine qt_aload_n (r := o0) rfl ?_; refine qt_getI rfl ?_; refine qt_bipush qb_10 ?_; exact qt_z rfl rfl rfl rfl rfl) ho77 ?_
        refine s_icmp (cd := .ge) (off := 7) 77 (by decide +kernel) (by decide) (fun hc => ?_) (fun hc => ?_)
        · replace h := h.1 hc
          refine s_blk [(.iconst 0, 1, 0, 0)] 78 [some (.ref (o0)), some (.ref (2)), some (.int (x2)), some (.int (v3))] [.int (0), .int (v3), .ref (2)] u8 [] (by decide +kernel) (by refine qt_iconst qc_0 ?_; exact qt_z rfl rfl rfl rfl rfl) trivial ?_
          refine s_callS (a := 0) (a' := 0) (As := [.ref (2), .int (v3), .int (0)]) (st := []) kX2_admit l_2_112 (by decide +kernel) rfl (Nat.le_of_ble_eq_true rfl) (s_mono h (s_V_of (fun u70 h => ?_)) (fun _ _ h9 => h9))
          show s_Ex (d + 1) 0 mX2_readClause 81 [some (.ref (o0)), some (.ref (2)), some (.int (x2)), some (.int (v3))] [] u70 Q X
          refine s_blk [(.aload_n 0, 1, 0, 0), (.aload_n 1, 1, 0, 0)] 83 [some (.ref (o0)), some (.ref (2)), some (.int (x2)), some (.int (v3))] [.ref (2), .ref (o0)] u70 [] (by decide +kernel) (by refine qt_aload_n (r := o0) rfl ?_; refine qt_aload_n (r := 2) rfl ?_; exact qt_z rfl rfl rfl rfl rfl) trivial ?_
          obtain ⟨hid, h⟩ := h
          refine s_callV (a := 0) (a' := 0) (As := [.ref (2)]) (id := o0) (st := []) kX2_readDebt l_2_122 (by decide +kernel) hid rfl (Nat.le_of_ble_eq_true rfl) (s_mono h (s_V_of (fun u72 h => ?_)) (fun _ _ h9 => h9))
          show s_Ex (d + 1) 0 mX2_readClause 86 [some (.ref (o0)), some (.ref (2)), some (.int (x2)), some (.int (v3))] [] u72 Q X
          refine s_blk [(.goto 181, 3, 267, 0)] 267 [some (.ref (o0)), some (.ref (2)), some (.int (x2)), some (.int (v3))] [] u72 [] (by decide +kernel) (by refine qt_goto ?_; exact qt_z rfl rfl rfl rfl rfl) trivial ?_
          exact s_retV (by decide +kernel) rfl h
        · replace h := h.2 hc
          refine s_blk [(.iconst 1, 1, 0, 0), (.goto 4, 3, 78, 0)] 78 [some (.ref (o0)), some (.ref (2)), some (.int (x2)), some (.int (v3))] [.int (1), .int (v3), .ref (2)] u8 [] (by decide +kernel) (by refine qt_iconst qc_1 ?_; refine qt_goto ?_; exact qt_z rfl rfl rfl rfl rfl) trivial ?_
          refine s_callS (a := 0) (a' := 0) (As := [.ref (2), .int (v3), .int (1)]) (st := []) kX2_admit l_2_112 (by decide +kernel) rfl (Nat.le_of_ble_eq_true rfl) (s_mono h (s_V_of (fun u74 h => ?_)) (fun _ _ h9 => h9))
          show s_Ex (d + 1) 0 mX2_readClause 81 [some (.ref (o0)), some (.ref (2)), some (.int (x2)), some (.int (v3))] [] u74 Q X
          refine s_blk [(.aload_n 0, 1, 0, 0), (.aload_n 1, 1, 0, 0)] 83 [some (.ref (o0)), some (.ref (2)), some (.int (x2)), some (.int (v3))] [.ref (2), .ref (o0)] u74 [] (by decide +kernel) (by refine qt_aload_n (r := o0) rfl ?_; refine qt_aload_n (r := 2) rfl ?_; exact qt_z rfl rfl rfl rfl rfl) trivial ?_
          obtain ⟨hid, h⟩ := h
          refine s_callV (a := 0) (a' := 0) (As := [.ref (2)]) (id := o0) (st := []) kX2_readDebt l_2_122 (by decide +kernel) hid rfl (Nat.le_of_ble_eq_true rfl) (s_mono h (s_V_of (fun u76 h => ?_)) (fun _ _ h9 => h9))
          show s_Ex (d + 1) 0 mX2_readClause 86 [some (.ref (o0)), some (.ref (2)), some (.int (x2)), some (.int (v3))] [] u76 Q X
          refine s_blk [(.goto 181, 3, 267, 0)] 267 [some (.ref (o0)), some (.ref (2)), some (.int (x2)), some (.int (v3))] [] u76 [] (by decide +kernel) (by refine qt_goto ?_; exact qt_z rfl rfl rfl rfl rfl) trivial ?_
          exact s_retV (by decide +kernel) rfl h
  · replace h := h.2 hc
    refine s_blk [(.aload_n 1, 1, 0, 0), (.iload_n 3, 1, 0, 0), (.iload_n 2, 1, 0, 0)] 21 [some (.ref (o0)), some (.ref (2)), some (.int (x2)), some (.int (v3))] [.int (x2), .int (v3), .ref (2)] u6 [] (by decide +kernel) (by refine qt_aload_n (r := 2) rfl ?_; refine qt_iload_n (x := v3) rfl ?_; refine qt_iload_n (x := x2) rfl ?_; exact qt_z rfl rfl rfl rfl rfl) trivial ?_
    refine s_if (cd := .eq) (off := 16) 37 (by decide +kernel) (by decide) (fun hc => ?_) (fun hc => ?_)
    · replace h := h.1 hc
      refine s_blk [(.iconst 0, 1, 0, 0)] 38 [some (.ref (o0)), some (.ref (2)), some (.int (x2)), some (.int (v3))] [.int (0), .int (v3), .ref (2)] u6 [] (by decide +kernel) (by refine qt_iconst qc_0 ?_; exact qt_z rfl rfl rfl rfl rfl) trivial ?_
      refine s_callS (a := 0) (a' := 0) (As := [.ref (2), .int (v3), .int (0)]) (st := []) kX2_admit l_2_112 (by decide +kernel) rfl (Nat.le_of_ble_eq_true rfl) (s_mono h (s_V_of (fun u79 h => ?_)) (fun _ _ h9 => h9))
      show s_Ex (d + 1) 0 mX2_readClause 41 [some (.ref (o0)), some (.ref (2)), some (.int (x2)), some (.int (v3))] [] u79 Q X
      refine s_blk [(.aload_n 0, 1, 0, 0), (.aload_n 1, 1, 0, 0)] 43 [some (.ref (o0)), some (.ref (2)), some (.int (x2)), some (.int (v3))] [.ref (2), .ref (o0)] u79 [] (by decide +kernel) (by refine qt_aload_n (r := o0) rfl ?_; refine qt_aload_n (r := 2) rfl ?_; exact qt_z rfl rfl rfl rfl rfl) trivial ?_
      obtain ⟨hid, h⟩ := h
      refine s_callV (a := 0) (a' := 0) (As := [.ref (2)]) (id := o0) (st := []) kX2_readCreditor l_2_116 (by decide +kernel) hid rfl (Nat.le_of_ble_eq_true rfl) (s_mono h (s_V_of (fun u81 h => ?_)) (fun _ _ h9 => h9))
      show s_Ex (d + 1) 0 mX2_readClause 46 [some (.ref (o0)), some (.ref (2)), some (.int (x2)), some (.int (v3))] [] u81 Q X
      refine s_blk [(.goto 221, 3, 267, 0)] 267 [some (.ref (o0)), some (.ref (2)), some (.int (x2)), some (.int (v3))] [] u81 [] (by decide +kernel) (by refine qt_goto ?_; exact qt_z rfl rfl rfl rfl rfl) trivial ?_
      exact s_retV (by decide +kernel) rfl h
    · replace h := h.2 hc
      obtain ⟨ho90, h⟩ := h
      refine s_blk [(.aload_n 0, 1, 0, 0), (.getfield 77, 3, 2, 0), (.bipush 6, 2, 0, 0)] 30 [some (.ref (o0)), some (.ref (2)), some (.int (x2)), some (.int (v3))] [.int (6), .int (u6.1 o0 0), .int (v3), .ref (2)] u6 [q_id 116 2 o0] (by decide +kernel) (by refine qt_aload_n (r := o0) rfl ?_; refine qt_getI rfl ?_; refine qt_bipush qb_6 ?_; exact qt_z rfl rfl rfl rfl rfl) ho90 ?_
      refine s_icmp (cd := .ge) (off := 7) 37 (by decide +kernel) (by decide) (fun hc => ?_) (fun hc => ?_)
      · replace h := h.1 hc
        refine s_blk [(.iconst 0, 1, 0, 0)] 38 [some (.ref (o0)), some (.ref (2)), some (.int (x2)), some (.int (v3))] [.int (0), .int (v3), .ref (2)] u6 [] (by decide +kernel) (by refine qt_iconst qc_0 ?_; exact qt_z rfl rfl rfl rfl rfl) trivial ?_
        refine s_callS (a := 0) (a' := 0) (As := [.ref (2), .int (v3), .int (0)]) (st := []) kX2_admit l_2_112 (by decide +kernel) rfl (Nat.le_of_ble_eq_true rfl) (s_mono h (s_V_of (fun u83 h => ?_)) (fun _ _ h9 => h9))
        show s_Ex (d + 1) 0 mX2_readClause 41 [some (.ref (o0)), some (.ref (2)), some (.int (x2)), some (.int (v3))] [] u83 Q X
        refine s_blk [(.aload_n 0, 1, 0, 0), (.aload_n 1, 1, 0, 0)] 43 [some (.ref (o0)), some (.ref (2)), some (.int (x2)), some (.int (v3))] [.ref (2), .ref (o0)] u83 [] (by decide +kernel) (by refine qt_aload_n (r := o0) rfl ?_; refine qt_aload_n (r := 2) rfl ?_; exact qt_z rfl rfl rfl rfl rfl) trivial ?_
        obtain ⟨hid, h⟩ := h
        refine s_callV (a := 0) (a' := 0) (As := [.ref (2)]) (id := o0) (st := []) kX2_readCreditor l_2_116 (by decide +kernel) hid rfl (Nat.le_of_ble_eq_true rfl) (s_mono h (s_V_of (fun u85 h => ?_)) (fun _ _ h9 => h9))
        show s_Ex (d + 1) 0 mX2_readClause 46 [some (.ref (o0)), some (.ref (2)), some (.int (x2)), some (.int (v3))] [] u85 Q X
        refine s_blk [(.goto 221, 3, 267, 0)] 267 [some (.ref (o0)), some (.ref (2)), some (.int (x2)), some (.int (v3))] [] u85 [] (by decide +kernel) (by refine qt_goto ?_; exact qt_z rfl rfl rfl rfl rfl) trivial ?_
        exact s_retV (by decide +kernel) rfl h
      · replace h := h.2 hc
        refine s_blk [(.iconst 1, 1, 0, 0), (.goto 4, 3, 38, 0)] 38 [some (.ref (o0)), some (.ref (2)), some (.int (x2)), some (.int (v3))] [.int (1), .int (v3), .ref (2)] u6 [] (by decide +kernel) (by refine qt_iconst qc_1 ?_; refine qt_goto ?_; exact qt_z rfl rfl rfl rfl rfl) trivial ?_
        refine s_callS (a := 0) (a' := 0) (As := [.ref (2), .int (v3), .int (1)]) (st := []) kX2_admit l_2_112 (by decide +kernel) rfl (Nat.le_of_ble_eq_true rfl) (s_mono h (s_V_of (fun u87 h => ?_)) (fun _ _ h9 => h9))
        show s_Ex (d + 1) 0 mX2_readClause 41 [some (.ref (o0)), some (.ref (2)), some (.int (x2)), some (.int (v3))] [] u87 Q X
        refine s_blk [(.aload_n 0, 1, 0, 0), (.aload_n 1, 1, 0, 0)] 43 [some (.ref (o0)), some (.ref (2)), some (.int (x2)), some (.int (v3))] [.ref (2), .ref (o0)] u87 [] (by decide +kernel) (by refine qt_aload_n (r := o0) rfl ?_; refine qt_aload_n (r := 2) rfl ?_; exact qt_z rfl rfl rfl rfl rfl) trivial ?_
        obtain ⟨hid, h⟩ := h
        refine s_callV (a := 0) (a' := 0) (As := [.ref (2)]) (id := o0) (st := []) kX2_readCreditor l_2_116 (by decide +kernel) hid rfl (Nat.le_of_ble_eq_true rfl) (s_mono h (s_V_of (fun u89 h => ?_)) (fun _ _ h9 => h9))
        show s_Ex (d + 1) 0 mX2_readClause 46 [some (.ref (o0)), some (.ref (2)), some (.int (x2)), some (.int (v3))] [] u89 Q X
        refine s_blk [(.goto 221, 3, 267, 0)] 267 [some (.ref (o0)), some (.ref (2)), some (.int (x2)), some (.int (v3))] [] u89 [] (by decide +kernel) (by refine qt_goto ?_; exact qt_z rfl rfl rfl rfl rfl) trivial ?_
        exact s_retV (by decide +kernel) rfl h
theorem eX2_readClause {d : Nat} {o0 : Nat} {x2 : Int32} {w : q_Sm} {Q : s_Po} {X : s_Xo} (h : vX2_readClause_0 d o0 x2 w Q X) : s_Ev (d + 1) 0 mX2_readClause w [.ref (o0), .ref (2), .int (x2)] Q X := s_of (by decide) rfl (Nat.le_of_ble_eq_true rfl) (xX2_readClause_0 h)
def vX2_admit_0 (d : Nat) (x1 : Int32) (x2 : Int32) (w : q_Sm) (Q : s_Po) (X : s_Xo) : Prop := ((¬ x2 = 0) → Q none w) ∧ (¬ (¬ x2 = 0) → s_EvV d 0 mX10_blame w [.ref (2), .int (3), .int (x1)] (fun u2 => Q none u2) X)
theorem xX2_admit_0 {d : Nat} {x1 : Int32} {x2 : Int32} {w : q_Sm} {Q : s_Po} {X : s_Xo} (h : vX2_admit_0 d x1 x2 w Q X) : s_Ex (d + 1) 0 mX2_admit 0 [some (.ref (2)), some (.int (x1)), some (.int (x2))] [] w Q X := by
  unfold vX2_admit_0 at h
  refine s_blk [(.iload_n 2, 1, 0, 0)] 1 [some (.ref (2)), some (.int (x1)), some (.int (x2))] [.int (x2)] w [] (by decide +kernel) (by refine qt_iload_n (x := x2) rfl ?_; exact qt_z rfl rfl rfl rfl rfl) trivial ?_
  refine s_if (cd := .ne) (off := 9) 10 (by decide +kernel) (by decide) (fun hc => ?_) (fun hc => ?_)
  · replace h := h.1 hc
    exact s_retV (by decide +kernel) rfl h
  · replace h := h.2 hc
    refine s_blk [(.aload_n 0, 1, 0, 0), (.iconst 3, 1, 0, 0), (.iload_n 1, 1, 0, 0)] 7 [some (.ref (2)), some (.int (x1)), some (.int (x2))] [.int (x1), .int (3), .ref (2)] w [] (by decide +kernel) (by refine qt_aload_n (r := 2) rfl ?_; refine qt_iconst qc_3 ?_; refine qt_iload_n (x := x1) rfl ?_; exact qt_z rfl rfl rfl rfl rfl) trivial ?_
    refine s_callV (a := 0) (a' := 0) (As := [.int (3), .int (x1)]) (id := 2) (st := []) kX10_blame l_2_152 (by decide +kernel) (q_id_of rfl) rfl (Nat.le_of_ble_eq_true rfl) (s_mono h (s_V_of (fun u2 h => ?_)) (fun _ _ h9 => h9))
    show s_Ex (d + 1) 0 mX2_admit 10 [some (.ref (2)), some (.int (x1)), some (.int (x2))] [] u2 Q X
    exact s_retV (by decide +kernel) rfl h
theorem eX2_admit {d : Nat} {x1 : Int32} {x2 : Int32} {w : q_Sm} {Q : s_Po} {X : s_Xo} (h : vX2_admit_0 d x1 x2 w Q X) : s_Ev (d + 1) 0 mX2_admit w [.ref (2), .int (x1), .int (x2)] Q X := s_of (by decide) rfl (Nat.le_of_ble_eq_true rfl) (xX2_admit_0 h)
