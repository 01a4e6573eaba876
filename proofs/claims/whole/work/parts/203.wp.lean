def vX12_law_0 (d : Nat) (x1 : Int32) (w : q_Sm) (Q : s_Po) (X : s_Xo) : Prop := ∀ w_1 : q_Sm, w_1 = q_wI w 79 0 0 → ((x1 < 0) → s_EvI d 0 mX12_may w_1 [.ref (79), .int (0), .int (1), .int (1)] (fun v2 u3 => ((¬ v2 = 0) → s_EvV d 0 mX12_begins u3 [.ref (79), .int (x1)] (fun u5 => ∀ w_6 : q_Sm, w_6 = q_wI u5 79 39 0 → s_EvV d 0 mX12_readSum w_6 [.ref (79)] (fun u8 => s_EvI d 0 mX12_fine u8 [.ref (79)] (fun v9 u10 => ((v9 = 0) → s_Ex (d + 1) 0 mX12_law 77 [some (.ref (79)), none, none] [] u10 Q X) ∧ (¬ (v9 = 0) → s_EvI d 0 mX12_isMore u10 [.ref (79)] (fun v11 u12 => ((v11 = 0) → s_Ex (d + 1) 0 mX12_law 77 [some (.ref (79)), none, none] [] u12 Q X) ∧ (¬ (v11 = 0) → s_EvV d 0 mX12_wrong u12 [.ref (79), .int (1), .int (u12.1 79 4)] (fun u14 => s_Ex (d + 1) 0 mX12_law 77 [some (.ref (79)), none, none] [] u14 Q X) X)) X)) X) X) X) ∧ (¬ (¬ v2 = 0) → Q (some (.int (0))) u3)) X) ∧ (¬ (x1 < 0) → (((w_1.1 79 2) < x1) → s_EvI d 0 mX12_may w_1 [.ref (79), .int (0), .int (1), .int (1)] (fun v15 u16 => ((¬ v15 = 0) → s_EvV d 0 mX12_begins u16 [.ref (79), .int (x1)] (fun u18 => ∀ w_19 : q_Sm, w_19 = q_wI u18 79 39 0 → s_EvV d 0 mX12_readSum w_19 [.ref (79)] (fun u21 => s_EvI d 0 mX12_fine u21 [.ref (79)] (fun v22 u23 => ((v22 = 0) → s_Ex (d + 1) 0 mX12_law 77 [some (.ref (79)), none, none] [] u23 Q X) ∧ (¬ (v22 = 0) → s_EvI d 0 mX12_isMore u23 [.ref (79)] (fun v24 u25 => ((v24 = 0) → s_Ex (d + 1) 0 mX12_law 77 [some (.ref (79)), none, none] [] u25 Q X) ∧ (¬ (v24 = 0) → s_EvV d 0 mX12_wrong u25 [.ref (79), .int (1), .int (u25.1 79 4)] (fun u27 => s_Ex (d + 1) 0 mX12_law 77 [some (.ref (79)), none, none] [] u27 Q X) X)) X)) X) X) X) ∧ (¬ (¬ v15 = 0) → Q (some (.int (0))) u16)) X) ∧ (¬ ((w_1.1 79 2) < x1) → ((150 < x1) → s_EvI d 0 mX12_may w_1 [.ref (79), .int (0), .int (1), .int (1)] (fun v28 u29 => ((¬ v28 = 0) → s_EvV d 0 mX12_begins u29 [.ref (79), .int (x1)] (fun u31 => ∀ w_32 : q_Sm, w_32 = q_wI u31 79 39 0 → s_EvV d 0 mX12_readSum w_32 [.ref (79)] (fun u34 => s_EvI d 0 mX12_fine u34 [.ref (79)] (fun v35 u36 => ((v35 = 0) → s_Ex (d + 1) 0 mX12_law 77 [some (.ref (79)), none, none] [] u36 Q X) ∧ (¬ (v35 = 0) → s_EvI d 0 mX12_isMore u36 [.ref (79)] (fun v37 u38 => ((v37 = 0) → s_Ex (d + 1) 0 mX12_law 77 [some (.ref (79)), none, none] [] u38 Q X) ∧ (¬ (v37 = 0) → s_EvV d 0 mX12_wrong u38 [.ref (79), .int (1), .int (u38.1 79 4)] (fun u40 => s_Ex (d + 1) 0 mX12_law 77 [some (.ref (79)), none, none] [] u40 Q X) X)) X)) X) X) X) ∧ (¬ (¬ v28 = 0) → Q (some (.int (0))) u29)) X) ∧ (¬ (150 < x1) → s_EvI d 0 mX12_may w_1 [.ref (79), .int (1), .int (1), .int (1)] (fun v41 u42 => ((¬ v41 = 0) → s_EvV d 0 mX12_begins u42 [.ref (79), .int (x1)] (fun u44 => ∀ w_45 : q_Sm, w_45 = q_wI u44 79 39 0 → s_EvV d 0 mX12_readSum w_45 [.ref (79)] (fun u47 => s_EvI d 0 mX12_fine u47 [.ref (79)] (fun v48 u49 => ((v48 = 0) → s_Ex (d + 1) 0 mX12_law 77 [some (.ref (79)), none, none] [] u49 Q X) ∧ (¬ (v48 = 0) → s_EvI d 0 mX12_isMore u49 [.ref (79)] (fun v50 u51 => ((v50 = 0) → s_Ex (d + 1) 0 mX12_law 77 [some (.ref (79)), none, none] [] u51 Q X) ∧ (¬ (v50 = 0) → s_EvV d 0 mX12_wrong u51 [.ref (79), .int (1), .int (u51.1 79 4)] (fun u53 => s_Ex (d + 1) 0 mX12_law 77 [some (.ref (79)), none, none] [] u53 Q X) X)) X)) X) X) X) ∧ (¬ (¬ v41 = 0) → Q (some (.int (0))) u42)) X)))
def vX12_law_77 (d : Nat)  (w : q_Sm) (Q : s_Po) (X : s_Xo) : Prop := s_EvI d 0 mX12_result w [.ref (79), .int (1)] (fun v54 u55 => (((u55.1 79 5) = (-1)) → ∀ w_56 : q_Sm, w_56 = q_wI u55 79 40 (u55.1 79 39) → s_EvV d 0 mX12_copies w_56 [.ref (79), .ref (96), .ref (98), .int (w_56.1 79 39)] (fun u58 => s_EvV d 0 mX12_copies u58 [.ref (79), .ref (97), .ref (99), .int (u58.1 79 39)] (fun u60 => Q (some (.int (v54))) u60) X) X) ∧ (¬ ((u55.1 79 5) = (-1)) → Q (some (.int (v54))) u55)) X
theorem xX12_law_0 {d : Nat} {x1 : Int32} {w : q_Sm} {Q : s_Po} {X : s_Xo} (h : vX12_law_0 d x1 w Q X) : s_Ex (d + 1) 0 mX12_law 0 [some (.ref (79)), some (.int (x1)), none] [] w Q X := by
  unfold vX12_law_0 at h
  replace h := h _ rfl
  refine s_blk [(.aload_n 0, 1, 0, 0), (.iconst 0, 1, 0, 0), (.putfield 3, 3, 12, 0), (.aload_n 0, 1, 0, 0), (.iload_n 1, 1, 0, 0)] 7 [some (.ref (79)), some (.int (x1)), none] [.int (x1), .ref (79)] (q_wI w 79 0 0) [q_id 116 12 79] (by decide +kernel) (by refine qt_aload_n (r := 79) rfl ?_; refine qt_iconst qc_0 ?_; refine qt_putI rfl ?_; refine qt_aload_n (r := 79) rfl ?_; refine qt_iload_n (x := x1) rfl ?_; exact qt_z rfl rfl rfl rfl rfl) (q_id_of rfl) ?_
  refine s_if (cd := .lt) (off := 22) 29 (by decide +kernel) (by decide) (fun hc => ?_) (fun hc => ?_)
  · replace h := h.1 hc
    refine s_blk [(.iconst 0, 1, 0, 0), (.iconst 1, 1, 0, 0), (.iconst 1, 1, 0, 0)] 32 [some (.ref (79)), some (.int (x1)), none] [.int (1), .int (1), .int (0), .ref (79)] (q_wI w 79 0 0) [] (by decide +kernel) (by refine qt_iconst qc_0 ?_; refine qt_iconst qc_1 ?_; refine qt_iconst qc_1 ?_; exact qt_z rfl rfl rfl rfl rfl) trivial ?_
    refine s_callV (a := 0) (a' := 0) (As := [.int (0), .int (1), .int (1)]) (id := 79) (st := []) kX12_may l_12_270 (by decide +kernel) (q_id_of rfl) rfl (Nat.le_of_ble_eq_true rfl) (s_mono h (s_I_of (fun v2 u3 h => ?_)) (fun _ _ h9 => h9))
    show s_Ex (d + 1) 0 mX12_law 35 [some (.ref (79)), some (.int (x1)), none] [.int (v2)] u3 Q X
    refine s_if (cd := .ne) (off := 5) 40 (by decide +kernel) (by decide) (fun hc => ?_) (fun hc => ?_)
    · replace h := h.1 hc
      refine s_blk [(.aload_n 0, 1, 0, 0), (.iload_n 1, 1, 0, 0)] 42 [some (.ref (79)), some (.int (x1)), none] [.int (x1), .ref (79)] u3 [] (by decide +kernel) (by refine qt_aload_n (r := 79) rfl ?_; refine qt_iload_n (x := x1) rfl ?_; exact qt_z rfl rfl rfl rfl rfl) trivial ?_
      refine s_callV (a := 0) (a' := 0) (As := [.int (x1)]) (id := 79) (st := []) kX12_begins l_12_274 (by decide +kernel) (q_id_of rfl) rfl (Nat.le_of_ble_eq_true rfl) (s_mono h (s_V_of (fun u5 h => ?_)) (fun _ _ h9 => h9))
      show s_Ex (d + 1) 0 mX12_law 45 [some (.ref (79)), some (.int (x1)), none] [] u5 Q X
      replace h := h _ rfl
      refine s_blk [(.aload_n 0, 1, 0, 0), (.iconst 0, 1, 0, 0), (.putfield 304, 3, 12, 39), (.aload_n 0, 1, 0, 0)] 51 [some (.ref (79)), some (.int (x1)), none] [.ref (79)] (q_wI u5 79 39 0) [q_id 116 12 79] (by decide +kernel) (by refine qt_aload_n (r := 79) rfl ?_; refine qt_iconst qc_0 ?_; refine qt_putI rfl ?_; refine qt_aload_n (r := 79) rfl ?_; exact qt_z rfl rfl rfl rfl rfl) (q_id_of rfl) ?_
      refine s_callV (a := 0) (a' := 0) (As := []) (id := 79) (st := []) kX12_readSum l_12_319 (by decide +kernel) (q_id_of rfl) rfl (Nat.le_of_ble_eq_true rfl) (s_mono h (s_V_of (fun u8 h => ?_)) (fun _ _ h9 => h9))
      show s_Ex (d + 1) 0 mX12_law 54 [some (.ref (79)), some (.int (x1)), none] [] u8 Q X
      refine s_blk [(.aload_n 0, 1, 0, 0)] 55 [some (.ref (79)), some (.int (x1)), none] [.ref (79)] u8 [] (by decide +kernel) (by refine qt_aload_n (r := 79) rfl ?_; exact qt_z rfl rfl rfl rfl rfl) trivial ?_
      refine s_callV (a := 0) (a' := 0) (As := []) (id := 79) (st := []) kX12_fine l_12_164 (by decide +kernel) (q_id_of rfl) rfl (Nat.le_of_ble_eq_true rfl) (s_mono h (s_I_of (fun v9 u10 h => ?_)) (fun _ _ h9 => h9))
      show s_Ex (d + 1) 0 mX12_law 58 [some (.ref (79)), some (.int (x1)), none] [.int (v9)] u10 Q X
      refine s_if (cd := .eq) (off := 19) 77 (by decide +kernel) (by decide) (fun hc => ?_) (fun hc => ?_)
      · replace h := h.1 hc
        refine s_blk [(.nop, 0, 1, 0)] 77 [some (.ref (79)), none, none] [] u10 [] (by decide +kernel) (by refine qt_nop (L' := [some (.ref (79)), none, none]) rfl ?_; exact qt_z rfl rfl rfl rfl rfl) trivial ?_
        exact h
      · replace h := h.2 hc
        refine s_blk [(.aload_n 0, 1, 0, 0)] 62 [some (.ref (79)), some (.int (x1)), none] [.ref (79)] u10 [] (by decide +kernel) (by refine qt_aload_n (r := 79) rfl ?_; exact qt_z rfl rfl rfl rfl rfl) trivial ?_
        refine s_callV (a := 0) (a' := 0) (As := []) (id := 79) (st := []) kX12_isMore l_12_278 (by decide +kernel) (q_id_of rfl) rfl (Nat.le_of_ble_eq_true rfl) (s_mono h (s_I_of (fun v11 u12 h => ?_)) (fun _ _ h9 => h9))
        show s_Ex (d + 1) 0 mX12_law 65 [some (.ref (79)), some (.int (x1)), none] [.int (v11)] u12 Q X
        refine s_if (cd := .eq) (off := 12) 77 (by decide +kernel) (by decide) (fun hc => ?_) (fun hc => ?_)
        · replace h := h.1 hc
          refine s_blk [(.nop, 0, 1, 0)] 77 [some (.ref (79)), none, none] [] u12 [] (by decide +kernel) (by refine qt_nop (L' := [some (.ref (79)), none, none]) rfl ?_; exact qt_z rfl rfl rfl rfl rfl) trivial ?_
          exact h
        · replace h := h.2 hc
          refine s_blk [(.aload_n 0, 1, 0, 0), (.iconst 1, 1, 0, 0), (.aload_n 0, 1, 0, 0), (.getfield 141, 3, 12, 4)] 74 [some (.ref (79)), some (.int (x1)), none] [.int (u12.1 79 4), .int (1), .ref (79)] u12 [q_id 116 12 79] (by decide +kernel) (by refine qt_aload_n (r := 79) rfl ?_; refine qt_iconst qc_1 ?_; refine qt_aload_n (r := 79) rfl ?_; refine qt_getI rfl rfl ?_; exact qt_z rfl rfl rfl rfl rfl) (q_id_of rfl) ?_
          refine s_callV (a := 0) (a' := 0) (As := [.int (1), .int (u12.1 79 4)]) (id := 79) (st := []) kX12_wrong l_12_171 (by decide +kernel) (q_id_of rfl) rfl (Nat.le_of_ble_eq_true rfl) (s_mono h (s_V_of (fun u14 h => ?_)) (fun _ _ h9 => h9))
          show s_Ex (d + 1) 0 mX12_law 77 [some (.ref (79)), some (.int (x1)), none] [] u14 Q X
          refine s_blk [(.nop, 0, 1, 0)] 77 [some (.ref (79)), none, none] [] u14 [] (by decide +kernel) (by refine qt_nop (L' := [some (.ref (79)), none, none]) rfl ?_; exact qt_z rfl rfl rfl rfl rfl) trivial ?_
          exact h
    · replace h := h.2 hc
      refine s_blk [(.iconst 0, 1, 0, 0)] 39 [some (.ref (79)), some (.int (x1)), none] [.int (0)] u3 [] (by decide +kernel) (by refine qt_iconst qc_0 ?_; exact qt_z rfl rfl rfl rfl rfl) trivial ?_
      exact s_retI .int (by decide +kernel) rfl rfl h
  · replace h := h.2 hc
    refine s_blk [(.iload_n 1, 1, 0, 0), (.aload_n 0, 1, 0, 0), (.getfield 132, 3, 12, 2)] 15 [some (.ref (79)), some (.int (x1)), none] [.int ((q_wI w 79 0 0).1 79 2), .int (x1), .ref (79)] (q_wI w 79 0 0) [q_id 116 12 79] (by decide +kernel) (by refine qt_iload_n (x := x1) rfl ?_; refine qt_aload_n (r := 79) rfl ?_; refine qt_getI rfl rfl ?_; exact qt_z rfl rfl rfl rfl rfl) (q_id_of rfl) ?_
    refine s_icmp (cd := .gt) (off := 14) 29 (by decide +kernel) (by decide) (fun hc => ?_) (fun hc => ?_)
    · replace h := h.1 hc
      refine s_blk [(.iconst 0, 1, 0, 0), (.iconst 1, 1, 0, 0), (.iconst 1, 1, 0, 0)] 32 [some (.ref (79)), some (.int (x1)), none] [.int (1), .int (1), .int (0), .ref (79)] (q_wI w 79 0 0) [] (by decide +kernel) (by refine qt_iconst qc_0 ?_; refine qt_iconst qc_1 ?_; refine qt_iconst qc_1 ?_; exact qt_z rfl rfl rfl rfl rfl) trivial ?_
      refine s_callV (a := 0) (a' := 0) (As := [.int (0), .int (1), .int (1)]) (id := 79) (st := []) kX12_may l_12_270 (by decide +kernel) (q_id_of rfl) rfl (Nat.le_of_ble_eq_true rfl) (s_mono h (s_I_of (fun v15 u16 h => ?_)) (fun _ _ h9 => h9))
      show s_Ex (d + 1) 0 mX12_law 35 [some (.ref (79)), some (.int (x1)), none] [.int (v15)] u16 Q X
      refine s_if (cd := .ne) (off := 5) 40 (by decide +kernel) (by decide) (fun hc => ?_) (fun hc => ?_)
      · replace h := h.1 hc
        refine s_blk [(.aload_n 0, 1, 0, 0), (.iload_n 1, 1, 0, 0)] 42 [some (.ref (79)), some (.int (x1)), none] [.int (x1), .ref (79)] u16 [] (by decide +kernel) (by refine qt_aload_n (r := 79) rfl ?_; refine qt_iload_n (x := x1) rfl ?_; exact qt_z rfl rfl rfl rfl rfl) trivial ?_
        refine s_callV (a := 0) (a' := 0) (As := [.int (x1)]) (id := 79) (st := []) kX12_begins l_12_274 (by decide +kernel) (q_id_of rfl) rfl (Nat.le_of_ble_eq_true rfl) (s_mono h (s_V_of (fun u18 h => ?_)) (fun _ _ h9 => h9))
        show s_Ex (d + 1) 0 mX12_law 45 [some (.ref (79)), some (.int (x1)), none] [] u18 Q X
        replace h := h _ rfl
        refine s_blk [(.aload_n 0, 1, 0, 0), (.iconst 0, 1, 0, 0), (.putfield 304, 3, 12, 39), (.aload_n 0, 1, 0, 0)] 51 [some (.ref (79)), some (.int (x1)), none] [.ref (79)] (q_wI u18 79 39 0) [q_id 116 12 79] (by decide +kernel) (by refine qt_aload_n (r := 79) rfl ?_; refine qt_iconst qc_0 ?_; refine qt_putI rfl ?_; refine qt_aload_n (r := 79) rfl ?_; exact qt_z rfl rfl rfl rfl rfl) (q_id_of rfl) ?_
        refine s_callV (a := 0) (a' := 0) (As := []) (id := 79) (st := []) kX12_readSum l_12_319 (by decide +kernel) (q_id_of rfl) rfl (Nat.le_of_ble_eq_true rfl) (s_mono h (s_V_of (fun u21 h => ?_)) (fun _ _ h9 => h9))
        show s_Ex (d + 1) 0 mX12_law 54 [some (.ref (79)), some (.int (x1)), none] [] u21 Q X
        refine s_blk [(.aload_n 0, 1, 0, 0)] 55 [some (.ref (79)), some (.int (x1)), none] [.ref (79)] u21 [] (by decide +kernel) (by refine qt_aload_n (r := 79) rfl ?_; exact qt_z rfl rfl rfl rfl rfl) trivial ?_
        refine s_callV (a := 0) (a' := 0) (As := []) (id := 79) (st := []) kX12_fine l_12_164 (by decide +kernel) (q_id_of rfl) rfl (Nat.le_of_ble_eq_true rfl) (s_mono h (s_I_of (fun v22 u23 h => ?_)) (fun _ _ h9 => h9))
        show s_Ex (d + 1) 0 mX12_law 58 [some (.ref (79)), some (.int (x1)), none] [.int (v22)] u23 Q X
        refine s_if (cd := .eq) (off := 19) 77 (by decide +kernel) (by decide) (fun hc => ?_) (fun hc => ?_)
        · replace h := h.1 hc
          refine s_blk [(.nop, 0, 1, 0)] 77 [some (.ref (79)), none, none] [] u23 [] (by decide +kernel) (by refine qt_nop (L' := [some (.ref (79)), none, none]) rfl ?_; exact qt_z rfl rfl rfl rfl rfl) trivial ?_
          exact h
        · replace h := h.2 hc
          refine s_blk [(.aload_n 0, 1, 0, 0)] 62 [some (.ref (79)), some (.int (x1)), none] [.ref (79)] u23 [] (by decide +kernel) (by refine qt_aload_n (r := 79) rfl ?_; exact qt_z rfl rfl rfl rfl rfl) trivial ?_
          refine s_callV (a := 0) (a' := 0) (As := []) (id := 79) (st := []) kX12_isMore l_12_278 (by decide +kernel) (q_id_of rfl) rfl (Nat.le_of_ble_eq_true rfl) (s_mono h (s_I_of (fun v24 u25 h => ?_)) (fun _ _ h9 => h9))
          show s_Ex (d + 1) 0 mX12_law 65 [some (.ref (79)), some (.int (x1)), none] [.int (v24)] u25 Q X
          refine s_if (cd := .eq) (off := 12) 77 (by decide +kernel) (by decide) (fun hc => ?_) (fun hc => ?_)
          · replace h := h.1 hc
            refine s_blk [(.nop, 0, 1, 0)] 77 [some (.ref (79)), none, none] [] u25 [] (by decide +kernel) (by refine qt_nop (L' := [some (.ref (79)), none, none]) rfl ?_; exact qt_z rfl rfl rfl rfl rfl) trivial ?_
            exact h
          · replace h := h.2 hc
            refine s_blk [(.aload_n 0, 1, 0, 0), (.iconst 1, 1, 0, 0), (.aload_n 0, 1, 0, 0), (.getfield 141, 3, 12, 4)] 74 [some (.ref (79)), some (.int (x1)), none] [.int (u25.1 79 4), .int (1), .ref (79)] u25 [q_id 116 12 79] (by decide +kernel) (by refine qt_aload_n (r := 79) rfl ?_; refine qt_iconst qc_1 ?_; refine qt_aload_n (r := 79) rfl ?_; refine qt_getI rfl rfl ?_; exact qt_z rfl rfl rfl rfl rfl) (q_id_of rfl) ?_
            refine s_callV (a := 0) (a' := 0) (As := [.int (1), .int (u25.1 79 4)]) (id := 79) (st := []) kX12_wrong l_12_171 (by decide +kernel) (q_id_of rfl) rfl (Nat.le_of_ble_eq_true rfl) (s_mono h (s_V_of (fun u27 h => ?_)) (fun _ _ h9 => h9))
            show s_Ex (d + 1) 0 mX12_law 77 [some (.ref (79)), some (.int (x1)), none] [] u27 Q X
            refine s_blk [(.nop, 0, 1, 0)] 77 [some (.ref (79)), none, none] [] u27 [] (by decide +kernel) (by refine qt_nop (L' := [some (.ref (79)), none, none]) rfl ?_; exact qt_z rfl rfl rfl rfl rfl) trivial ?_
            exact h
      · replace h := h.2 hc
        refine s_blk [(.iconst 0, 1, 0, 0)] 39 [some (.ref (79)), some (.int (x1)), none] [.int (0)] u16 [] (by decide +kernel) (by refine qt_iconst qc_0 ?_; exact qt_z rfl rfl rfl rfl rfl) trivial ?_
        exact s_retI .int (by decide +kernel) rfl rfl h
    · replace h := h.2 hc
      refine s_blk [(.iload_n 1, 1, 0, 0), (.sipush 150, 3, 0, 0)] 22 [some (.ref (79)), some (.int (x1)), none] [.int (150), .int (x1), .ref (79)] (q_wI w 79 0 0) [] (by decide +kernel) (by refine qt_iload_n (x := x1) rfl ?_; refine qt_sipush qs_150 ?_; exact qt_z rfl rfl rfl rfl rfl) trivial ?_
      refine s_icmp (cd := .gt) (off := 7) 29 (by decide +kernel) (by decide) (fun hc => ?_) (fun hc => ?_)
      · replace h := h.1 hc
        refine s_blk [(.iconst 0, 1, 0, 0), (.iconst 1, 1, 0, 0), (.iconst 1, 1, 0, 0)] 32 [some (.ref (79)), some (.int (x1)), none] [.int (1), .int (1), .int (0), .ref (79)] (q_wI w 79 0 0) [] (by decide +kernel) (by refine qt_iconst qc_0 ?_; refine qt_iconst qc_1 ?_; refine qt_iconst qc_1 ?_; exact qt_z rfl rfl rfl rfl rfl) trivial ?_
        refine s_callV (a := 0) (a' := 0) (As := [.int (0), .int (1), .int (1)]) (id := 79) (st := []) kX12_may l_12_270 (by decide +kernel) (q_id_of rfl) rfl (Nat.le_of_ble_eq_true rfl) (s_mono h (s_I_of (fun v28 u29 h => ?_)) (fun _ _ h9 => h9))
        show s_Ex (d + 1) 0 mX12_law 35 [some (.ref (79)), some (.int (x1)), none] [.int (v28)] u29 Q X
        refine s_if (cd := .ne) (off := 5) 40 (by decide +kernel) (by decide) (fun hc => ?_) (fun hc => ?_)
        · replace h := h.1 hc
          refine s_blk [(.aload_n 0, 1, 0, 0), (.iload_n 1, 1, 0, 0)] 42 [some (.ref (79)), some (.int (x1)), none] [.int (x1), .ref (79)] u29 [] (by decide +kernel) (by refine qt_aload_n (r := 79) rfl ?_; refine qt_iload_n (x := x1) rfl ?_; exact qt_z rfl rfl rfl rfl rfl) trivial ?_
          refine s_callV (a := 0) (a' := 0) (As := [.int (x1)]) (id := 79) (st := []) kX12_begins l_12_274 (by decide +kernel) (q_id_of rfl) rfl (Nat.le_of_ble_eq_true rfl) (s_mono h (s_V_of (fun u31 h => ?_)) (fun _ _ h9 => h9))
          show s_Ex (d + 1) 0 mX12_law 45 [some (.ref (79)), some (.int (x1)), none] [] u31 Q X
          replace h := h _ rfl
          refine s_blk [(.aload_n 0, 1, 0, 0), (.iconst 0, 1, 0, 0), (.putfield 304, 3, 12, 39), (.aload_n 0, 1, 0, 0)] 51 [some (.ref (79)), some (.int (x1)), none] [.ref (79)] (q_wI u31 79 39 0) [q_id 116 12 79] (by decide +kernel) (by refine qt_aload_n (r := 79) rfl ?_; refine qt_iconst qc_0 ?_; refine qt_putI rfl ?_; refine qt_aload_n (r := 79) rfl ?_; exact qt_z rfl rfl rfl rfl rfl) (q_id_of rfl) ?_
          refine s_callV (a := 0) (a' := 0) (As := []) (id := 79) (st := []) kX12_readSum l_12_319 (by decide +kernel) (q_id_of rfl) rfl (Nat.le_of_ble_eq_true rfl) (s_mono h (s_V_of (fun u34 h => ?_)) (fun _ _ h9 => h9))
          show s_Ex (d + 1) 0 mX12_law 54 [some (.ref (79)), some (.int (x1)), none] [] u34 Q X
          refine s_blk [(.aload_n 0, 1, 0, 0)] 55 [some (.ref (79)), some (.int (x1)), none] [.ref (79)] u34 [] (by decide +kernel) (by refine qt_aload_n (r := 79) rfl ?_; exact qt_z rfl rfl rfl rfl rfl) trivial ?_
          refine s_callV (a := 0) (a' := 0) (As := []) (id := 79) (st := []) kX12_fine l_12_164 (by decide +kernel) (q_id_of rfl) rfl (Nat.le_of_ble_eq_true rfl) (s_mono h (s_I_of (fun v35 u36 h => ?_)) (fun _ _ h9 => h9))
          show s_Ex (d + 1) 0 mX12_law 58 [some (.ref (79)), some (.int (x1)), none] [.int (v35)] u36 Q X
          refine s_if (cd := .eq) (off := 19) 77 (by decide +kernel) (by decide) (fun hc => ?_) (fun hc => ?_)
          · replace h := h.1 hc
            refine s_blk [(.nop, 0, 1, 0)] 77 [some (.ref (79)), none, none] [] u36 [] (by decide +kernel) (by refine qt_nop (L' := [some (.ref (79)), none, none]) rfl ?_; exact qt_z rfl rfl rfl rfl rfl) trivial ?_
            exact h
          · replace h := h.2 hc
            refine s_blk [(.aload_n 0, 1, 0, 0)] 62 [some (.ref (79)), some (.int (x1)), none] [.ref (79)] u36 [] (by decide +kernel) (by refine qt_aload_n (r := 79) rfl ?_; exact qt_z rfl rfl rfl rfl rfl) trivial ?_
            refine s_callV (a := 0) (a' := 0) (As := []) (id := 79) (st := []) kX12_isMore l_12_278 (by decide +kernel) (q_id_of rfl) rfl (Nat.le_of_ble_eq_true rfl) (s_mono h (s_I_of (fun v37 u38 h => ?_)) (fun _ _ h9 => h9))
            show s_Ex (d + 1) 0 mX12_law 65 [some (.ref (79)), some (.int (x1)), none] [.int (v37)] u38 Q X
            refine s_if (cd := .eq) (off := 12) 77 (by decide +kernel) (by decide) (fun hc => ?_) (fun hc => ?_)
            · replace h := h.1 hc
              refine s_blk [(.nop, 0, 1, 0)] 77 [some (.ref (79)), none, none] [] u38 [] (by decide +kernel) (by refine qt_nop (L' := [some (.ref (79)), none, none]) rfl ?_; exact qt_z rfl rfl rfl rfl rfl) trivial ?_
              exact h
            · replace h := h.2 hc
              refine s_blk [(.aload_n 0, 1, 0, 0), (.iconst 1, 1, 0, 0), (.aload_n 0, 1, 0, 0), (.getfield 141, 3, 12, 4)] 74 [some (.ref (79)), some (.int (x1)), none] [.int (u38.1 79 4), .int (1), .ref (79)] u38 [q_id 116 12 79] (by decide +kernel) (by refine qt_aload_n (r := 79) rfl ?_; refine qt_iconst qc_1 ?_; refine qt_aload_n (r := 79) rfl ?_; refine qt_getI rfl rfl ?_; exact qt_z rfl rfl rfl rfl rfl) (q_id_of rfl) ?_
              refine s_callV (a := 0) (a' := 0) (As := [.int (1), .int (u38.1 79 4)]) (id := 79) (st := []) kX12_wrong l_12_171 (by decide +kernel) (q_id_of rfl) rfl (Nat.le_of_ble_eq_true rfl) (s_mono h (s_V_of (fun u40 h => ?_)) (fun _ _ h9 => h9))
              show s_Ex (d + 1) 0 mX12_law 77 [some (.ref (79)), some (.int (x1)), none] [] u40 Q X
              refine s_blk [(.nop, 0, 1, 0)] 77 [some (.ref (79)), none, none] [] u40 [] (by decide +kernel) (by refine qt_nop (L' := [some (.ref (79)), none, none]) rfl ?_; exact qt_z rfl rfl rfl rfl rfl) trivial ?_
              exact h
        · replace h := h.2 hc
          refine s_blk [(.iconst 0, 1, 0, 0)] 39 [some (.ref (79)), some (.int (x1)), none] [.int (0)] u29 [] (by decide +kernel) (by refine qt_iconst qc_0 ?_; exact qt_z rfl rfl rfl rfl rfl) trivial ?_
          exact s_retI .int (by decide +kernel) rfl rfl h
      · replace h := h.2 hc
        refine s_blk [(.iconst 1, 1, 0, 0), (.goto 4, 3, 30, 0), (.iconst 1, 1, 0, 0), (.iconst 1, 1, 0, 0)] 32 [some (.ref (79)), some (.int (x1)), none] [.int (1), .int (1), .int (1), .ref (79)] (q_wI w 79 0 0) [] (by decide +kernel) (by refine qt_iconst qc_1 ?_; refine qt_goto ?_; refine qt_iconst qc_1 ?_; refine qt_iconst qc_1 ?_; exact qt_z rfl rfl rfl rfl rfl) trivial ?_
        refine s_callV (a := 0) (a' := 0) (As := [.int (1), .int (1), .int (1)]) (id := 79) (st := []) kX12_may l_12_270 (by decide +kernel) (q_id_of rfl) rfl (Nat.le_of_ble_eq_true rfl) (s_mono h (s_I_of (fun v41 u42 h => ?_)) (fun _ _ h9 => h9))
        show s_Ex (d + 1) 0 mX12_law 35 [some (.ref (79)), some (.int (x1)), none] [.int (v41)] u42 Q X
        refine s_if (cd := .ne) (off := 5) 40 (by decide +kernel) (by decide) (fun hc => ?_) (fun hc => ?_)
        · replace h := h.1 hc
          refine s_blk [(.aload_n 0, 1, 0, 0), (.iload_n 1, 1, 0, 0)] 42 [some (.ref (79)), some (.int (x1)), none] [.int (x1), .ref (79)] u42 [] (by decide +kernel) (by refine qt_aload_n (r := 79) rfl ?_; refine qt_iload_n (x := x1) rfl ?_; exact qt_z rfl rfl rfl rfl rfl) trivial ?_
          refine s_callV (a := 0) (a' := 0) (As := [.int (x1)]) (id := 79) (st := []) kX12_begins l_12_274 (by decide +kernel) (q_id_of rfl) rfl (Nat.le_of_ble_eq_true rfl) (s_mono h (s_V_of (fun u44 h => ?_)) (fun _ _ h9 => h9))
          show s_Ex (d + 1) 0 mX12_law 45 [some (.ref (79)), some (.int (x1)), none] [] u44 Q X
          replace h := h _ rfl
          refine s_blk [(.aload_n 0, 1, 0, 0), (.iconst 0, 1, 0, 0), (.putfield 304, 3, 12, 39), (.aload_n 0, 1, 0, 0)] 51 [some (.ref (79)), some (.int (x1)), none] [.ref (79)] (q_wI u44 79 39 0) [q_id 116 12 79] (by decide +kernel) (by refine qt_aload_n (r := 79) rfl ?_; refine qt_iconst qc_0 ?_; refine qt_putI rfl ?_; refine qt_aload_n (r := 79) rfl ?_; exact qt_z rfl rfl rfl rfl rfl) (q_id_of rfl) ?_
          refine s_callV (a := 0) (a' := 0) (As := []) (id := 79) (st := []) kX12_readSum l_12_319 (by decide +kernel) (q_id_of rfl) rfl (Nat.le_of_ble_eq_true rfl) (s_mono h (s_V_of (fun u47 h => ?_)) (fun _ _ h9 => h9))
          show s_Ex (d + 1) 0 mX12_law 54 [some (.ref (79)), some (.int (x1)), none] [] u47 Q X
          refine s_blk [(.aload_n 0, 1, 0, 0)] 55 [some (.ref (79)), some (.int (x1)), none] [.ref (79)] u47 [] (by decide +kernel) (by refine qt_aload_n (r := 79) rfl ?_; exact qt_z rfl rfl rfl rfl rfl) trivial ?_
          refine s_callV (a := 0) (a' := 0) (As := []) (id := 79) (st := []) kX12_fine l_12_164 (by decide +kernel) (q_id_of rfl) rfl (Nat.le_of_ble_eq_true rfl) (s_mono h (s_I_of (fun v48 u49 h => ?_)) (fun _ _ h9 => h9))
          show s_Ex (d + 1) 0 mX12_law 58 [some (.ref (79)), some (.int (x1)), none] [.int (v48)] u49 Q X
          refine s_if (cd := .eq) (off := 19) 77 (by decide +kernel) (by decide) (fun hc => ?_) (fun hc => ?_)
          · replace h := h.1 hc
            refine s_blk [(.nop, 0, 1, 0)] 77 [some (.ref (79)), none, none] [] u49 [] (by decide +kernel) (by refine qt_nop (L' := [some (.ref (79)), none, none]) rfl ?_; exact qt_z rfl rfl rfl rfl rfl) trivial ?_
            exact h
          · replace h := h.2 hc
            refine s_blk [(.aload_n 0, 1, 0, 0)] 62 [some (.ref (79)), some (.int (x1)), none] [.ref (79)] u49 [] (by decide +kernel) (by refine qt_aload_n (r := 79) rfl ?_; exact qt_z rfl rfl rfl rfl rfl) trivial ?_
            refine s_callV (a := 0) (a' := 0) (As := []) (id := 79) (st := []) kX12_isMore l_12_278 (by decide +kernel) (q_id_of rfl) rfl (Nat.le_of_ble_eq_true rfl) (s_mono h (s_I_of (fun v50 u51 h => ?_)) (fun _ _ h9 => h9))
            show s_Ex (d + 1) 0 mX12_law 65 [some (.ref (79)), some (.int (x1)), none] [.int (v50)] u51 Q X
            refine s_if (cd := .eq) (off := 12) 77 (by decide +kernel) (by decide) (fun hc => ?_) (fun hc => ?_)
            · replace h := h.1 hc
              refine s_blk [(.nop, 0, 1, 0)] 77 [some (.ref (79)), none, none] [] u51 [] (by decide +kernel) (by refine qt_nop (L' := [some (.ref (79)), none, none]) rfl ?_; exact qt_z rfl rfl rfl rfl rfl) trivial ?_
              exact h
            · replace h := h.2 hc
              refine s_blk [(.aload_n 0, 1, 0, 0), (.iconst 1, 1, 0, 0), (.aload_n 0, 1, 0, 0), (.getfield 141, 3, 12, 4)] 74 [some (.ref (79)), some (.int (x1)), none] [.int (u51.1 79 4), .int (1), .ref (79)] u51 [q_id 116 12 79] (by decide +kernel) (by refine qt_aload_n (r := 79) rfl ?_; refine qt_iconst qc_1 ?_; refine qt_aload_n (r := 79) rfl ?_; refine qt_getI rfl rfl ?_; exact qt_z rfl rfl rfl rfl rfl) (q_id_of rfl) ?_
              refine s_callV (a := 0) (a' := 0) (As := [.int (1), .int (u51.1 79 4)]) (id := 79) (st := []) kX12_wrong l_12_171 (by decide +kernel) (q_id_of rfl) rfl (Nat.le_of_ble_eq_true rfl) (s_mono h (s_V_of (fun u53 h => ?_)) (fun _ _ h9 => h9))
              show s_Ex (d + 1) 0 mX12_law 77 [some (.ref (79)), some (.int (x1)), none] [] u53 Q X
              refine s_blk [(.nop, 0, 1, 0)] 77 [some (.ref (79)), none, none] [] u53 [] (by decide +kernel) (by refine qt_nop (L' := [some (.ref (79)), none, none]) rfl ?_; exact qt_z rfl rfl rfl rfl rfl) trivial ?_
              exact h
        · replace h := h.2 hc
          refine s_blk [(.iconst 0, 1, 0, 0)] 39 [some (.ref (79)), some (.int (x1)), none] [.int (0)] u42 [] (by decide +kernel) (by refine qt_iconst qc_0 ?_; exact qt_z rfl rfl rfl rfl rfl) trivial ?_
          exact s_retI .int (by decide +kernel) rfl rfl h
theorem xX12_law_77 {d : Nat}  {w : q_Sm} {Q : s_Po} {X : s_Xo} (h : vX12_law_77 d  w Q X) : s_Ex (d + 1) 0 mX12_law 77 [some (.ref (79)), none, none] [] w Q X := by
  unfold vX12_law_77 at h
  refine s_blk [(.aload_n 0, 1, 0, 0), (.iconst 1, 1, 0, 0)] 79 [some (.ref (79)), none, none] [.int (1), .ref (79)] w [] (by decide +kernel) (by refine qt_aload_n (r := 79) rfl ?_; refine qt_iconst qc_1 ?_; exact qt_z rfl rfl rfl rfl rfl) trivial ?_
  refine s_callV (a := 0) (a' := 0) (As := [.int (1)]) (id := 79) (st := []) kX12_result l_12_300 (by decide +kernel) (q_id_of rfl) rfl (Nat.le_of_ble_eq_true rfl) (s_mono h (s_I_of (fun v54 u55 h => ?_)) (fun _ _ h9 => h9))
  show s_Ex (d + 1) 0 mX12_law 82 [some (.ref (79)), none, none] [.int (v54)] u55 Q X
  refine s_blk [(.istore_n 2, 1, 0, 0), (.aload_n 0, 1, 0, 0), (.getfield 135, 3, 12, 5), (.iconst (-1), 1, 0, 0)] 88 [some (.ref (79)), none, some (.int (v54))] [.int (-1), .int (u55.1 79 5)] u55 [q_id 116 12 79] (by decide +kernel) (by refine qt_istore_n (L' := [some (.ref (79)), none, some (.int (v54))]) rfl ?_; refine qt_aload_n (r := 79) rfl ?_; refine qt_getI rfl rfl ?_; refine qt_iconst qc_m1 ?_; exact qt_z rfl rfl rfl rfl rfl) (q_id_of rfl) ?_
  refine s_icmp (cd := .eq) (off := 5) 93 (by decide +kernel) (by decide) (fun hc => ?_) (fun hc => ?_)
  · replace h := h.1 hc
    replace h := h _ rfl
    refine s_blk [(.aload_n 0, 1, 0, 0), (.aload_n 0, 1, 0, 0), (.getfield 304, 3, 12, 39), (.putfield 212, 3, 12, 40), (.aload_n 0, 1, 0, 0), (.aload_n 0, 1, 0, 0), (.getfield 65, 3, 12, 34), (.aload_n 0, 1, 0, 0), (.getfield 71, 3, 12, 36), (.aload_n 0, 1, 0, 0), (.getfield 304, 3, 12, 39)] 114 [some (.ref (79)), none, some (.int (v54))] [.int ((q_wI u55 79 40 (u55.1 79 39)).1 79 39), .ref (98), .ref (96), .ref (79)] (q_wI u55 79 40 (u55.1 79 39)) [q_id 116 12 79, q_id 116 12 79, q_id 116 12 79, q_id 116 12 79, q_id 116 12 79] (by decide +kernel) (by refine qt_aload_n (r := 79) rfl ?_; refine qt_aload_n (r := 79) rfl ?_; refine qt_getI rfl rfl ?_; refine qt_putI rfl ?_; refine qt_aload_n (r := 79) rfl ?_; refine qt_aload_n (r := 79) rfl ?_; refine qt_getR (r := 96) rfl rfl rfl ?_; refine qt_aload_n (r := 79) rfl ?_; refine qt_getR (r := 98) rfl rfl rfl ?_; refine qt_aload_n (r := 79) rfl ?_; refine qt_getI rfl rfl ?_; exact qt_z rfl rfl rfl rfl rfl) ⟨(q_id_of rfl), (q_id_of rfl), (q_id_of rfl), (q_id_of rfl), (q_id_of rfl)⟩ ?_
    refine s_callV (a := 0) (a' := 0) (As := [.ref (96), .ref (98), .int ((q_wI u55 79 40 (u55.1 79 39)).1 79 39)]) (id := 79) (st := []) kX12_copies l_12_208 (by decide +kernel) (q_id_of rfl) rfl (Nat.le_of_ble_eq_true rfl) (s_mono h (s_V_of (fun u58 h => ?_)) (fun _ _ h9 => h9))
    show s_Ex (d + 1) 0 mX12_law 117 [some (.ref (79)), none, some (.int (v54))] [] u58 Q X
    refine s_blk [(.aload_n 0, 1, 0, 0), (.aload_n 0, 1, 0, 0), (.getfield 68, 3, 12, 35), (.aload_n 0, 1, 0, 0), (.getfield 74, 3, 12, 37), (.aload_n 0, 1, 0, 0), (.getfield 304, 3, 12, 39)] 130 [some (.ref (79)), none, some (.int (v54))] [.int (u58.1 79 39), .ref (99), .ref (97), .ref (79)] u58 [q_id 116 12 79, q_id 116 12 79, q_id 116 12 79] (by decide +kernel) (by refine qt_aload_n (r := 79) rfl ?_; refine qt_aload_n (r := 79) rfl ?_; refine qt_getR (r := 97) rfl rfl rfl ?_; refine qt_aload_n (r := 79) rfl ?_; refine qt_getR (r := 99) rfl rfl rfl ?_; refine qt_aload_n (r := 79) rfl ?_; refine qt_getI rfl rfl ?_; exact qt_z rfl rfl rfl rfl rfl) ⟨(q_id_of rfl), (q_id_of rfl), (q_id_of rfl)⟩ ?_
    refine s_callV (a := 0) (a' := 0) (As := [.ref (97), .ref (99), .int (u58.1 79 39)]) (id := 79) (st := []) kX12_copies l_12_208 (by decide +kernel) (q_id_of rfl) rfl (Nat.le_of_ble_eq_true rfl) (s_mono h (s_V_of (fun u60 h => ?_)) (fun _ _ h9 => h9))
    show s_Ex (d + 1) 0 mX12_law 133 [some (.ref (79)), none, some (.int (v54))] [] u60 Q X
    refine s_blk [(.iload_n 2, 1, 0, 0)] 134 [some (.ref (79)), none, some (.int (v54))] [.int (v54)] u60 [] (by decide +kernel) (by refine qt_iload_n (x := v54) rfl ?_; exact qt_z rfl rfl rfl rfl rfl) trivial ?_
    exact s_retI .int (by decide +kernel) rfl rfl h
  · replace h := h.2 hc
    refine s_blk [(.iload_n 2, 1, 0, 0)] 92 [some (.ref (79)), none, some (.int (v54))] [.int (v54)] u55 [] (by decide +kernel) (by refine qt_iload_n (x := v54) rfl ?_; exact qt_z rfl rfl rfl rfl rfl) trivial ?_
    exact s_retI .int (by decide +kernel) rfl rfl h
theorem eX12_law {d : Nat} {x1 : Int32} {w : q_Sm} {Q : s_Po} {X : s_Xo} (h : vX12_law_0 d x1 w Q X) : s_Ev (d + 1) 0 mX12_law w [.ref (79), .int (x1)] Q X := s_of (by decide +kernel) rfl (Nat.le_of_ble_eq_true rfl) (xX12_law_0 h)
def vX12_valueNow_0 (d : Nat)  (w : q_Sm) (Q : s_Po) (X : s_Xo) : Prop := s_Ex (d + 1) 0 mX12_valueNow 4 [some (.ref (79)), some (.int (0)), some (.int (0)), none] [] w Q X
def vX12_valueNow_4 (d : Nat) (x1 : Int32) (x2 : Int32) (w : q_Sm) (Q : s_Po) (X : s_Xo) : Prop := (((w.1 79 40) ≤ x2) → Q (some (.int (w.1 100 (Int32.toNatClampNeg 0)))) w) ∧ (¬ ((w.1 79 40) ≤ x2) → (vp_in x2 150) ∧ ((1 < (w.1 98 (Int32.toNatClampNeg x2))) → (vp_in ((x1 + (-1)) - 1) 150) ∧ (vp_in (x1 + (-1)) 150) ∧ s_EvI d 0 mX12_both w [.int (w.1 98 (Int32.toNatClampNeg x2)), .int (w.1 100 (Int32.toNatClampNeg ((x1 + (-1)) - 1))), .int (w.1 100 (Int32.toNatClampNeg (x1 + (-1))))] (fun v1 u2 => (vp_in ((x1 + (-1)) - 1) 150) ∧ ∀ w_3 : q_Sm, w_3 = q_wI u2 100 (Int32.toNatClampNeg ((x1 + (-1)) - 1)) v1 → s_Ex (d + 1) 0 mX12_valueNow 4 [some (.ref (79)), some (.int (x1 + (-1))), some (.int (x2 + 1)), none] [] w_3 Q X) X) ∧ (¬ (1 < (w.1 98 (Int32.toNatClampNeg x2))) → ((¬ (w.1 98 (Int32.toNatClampNeg x2)) = 0) → (vp_in x2 150) ∧ (vp_in (w.1 99 (Int32.toNatClampNeg x2)) 7) ∧ (vp_in x1 150) ∧ ∀ w_7 : q_Sm, w_7 = q_wI w 100 (Int32.toNatClampNeg x1) (w.1 101 (Int32.toNatClampNeg (w.1 99 (Int32.toNatClampNeg x2)))) → s_Ex (d + 1) 0 mX12_valueNow 4 [some (.ref (79)), some (.int (x1 + 1)), some (.int (x2 + 1)), none] [] w_7 Q X) ∧ (¬ (¬ (w.1 98 (Int32.toNatClampNeg x2)) = 0) → (vp_in x2 150) ∧ (vp_in x1 150) ∧ ∀ w_11 : q_Sm, w_11 = q_wI w 100 (Int32.toNatClampNeg x1) (w.1 99 (Int32.toNatClampNeg x2)) → s_Ex (d + 1) 0 mX12_valueNow 4 [some (.ref (79)), some (.int (x1 + 1)), some (.int (x2 + 1)), none] [] w_11 Q X)))
theorem xX12_valueNow_0 {d : Nat}  {w : q_Sm} {Q : s_Po} {X : s_Xo} (h : vX12_valueNow_0 d  w Q X) : s_Ex (d + 1) 0 mX12_valueNow 0 [some (.ref (79)), none, none, none] [] w Q X := by
  unfold vX12_valueNow_0 at h
  refine s_blk [(.iconst 0, 1, 0, 0), (.istore_n 1, 1, 0, 0), (.iconst 0, 1, 0, 0), (.istore_n 2, 1, 0, 0)] 4 [some (.ref (79)), some (.int (0)), some (.int (0)), none] [] w [] (by decide +kernel) (by refine qt_iconst qc_0 ?_; refine qt_istore_n (L' := [some (.ref (79)), some (.int (0)), none, none]) rfl ?_; refine qt_iconst qc_0 ?_; refine qt_istore_n (L' := [some (.ref (79)), some (.int (0)), some (.int (0)), none]) rfl ?_; exact qt_z rfl rfl rfl rfl rfl) trivial ?_
  exact h
theorem xX12_valueNow_4 {d : Nat} {x1 : Int32} {x2 : Int32} {w : q_Sm} {Q : s_Po} {X : s_Xo} (h : vX12_valueNow_4 d x1 x2 w Q X) : s_Ex (d + 1) 0 mX12_valueNow 4 [some (.ref (79)), some (.int (x1)), some (.int (x2)), none] [] w Q X := by
  unfold vX12_valueNow_4 at h
  refine s_blk [(.iload_n 2, 1, 0, 0), (.aload_n 0, 1, 0, 0), (.getfield 212, 3, 12, 40)] 9 [some (.ref (79)), some (.int (x1)), some (.int (x2)), none] [.int (w.1 79 40), .int (x2)] w [q_id 116 12 79] (by decide +kernel) (by refine qt_iload_n (x := x2) rfl ?_; refine qt_aload_n (r := 79) rfl ?_; refine qt_getI rfl rfl ?_; exact qt_z rfl rfl rfl rfl rfl) (q_id_of rfl) ?_
  refine s_icmp (cd := .ge) (off := 86) 95 (by decide +kernel) (by decide) (fun hc => ?_) (fun hc => ?_)
  · replace h := h.1 hc
    refine s_blk [(.aload_n 0, 1, 0, 0), (.getfield 77, 3, 12, 38), (.iconst 0, 1, 0, 0), (.iaload, 1, 0, 0)] 101 [some (.ref (79)), some (.int (x1)), some (.int (x2)), none] [.int (w.1 100 (Int32.toNatClampNeg 0))] w [q_id 116 12 79, q_id 116 14 100, vp_in 0 150] (by decide +kernel) (by refine qt_aload_n (r := 79) rfl ?_; refine qt_getR (r := 100) rfl rfl rfl ?_; refine qt_iconst qc_0 ?_; refine qt_iald ?_; exact qt_z rfl rfl rfl rfl rfl) ⟨(q_id_of rfl), (q_id_of rfl), (q_vin rfl)⟩ ?_
    exact s_retI .int (by decide +kernel) rfl rfl h
  · replace h := h.2 hc
    obtain ⟨ho14, h⟩ := h
    refine s_blk [(.aload_n 0, 1, 0, 0), (.getfield 71, 3, 12, 36), (.iload_n 2, 1, 0, 0), (.iaload, 1, 0, 0), (.istore_n 3, 1, 0, 0), (.iload_n 3, 1, 0, 0), (.iconst 1, 1, 0, 0)] 21 [some (.ref (79)), some (.int (x1)), some (.int (x2)), some (.int (w.1 98 (Int32.toNatClampNeg x2)))] [.int (1), .int (w.1 98 (Int32.toNatClampNeg x2))] w [q_id 116 12 79, q_id 116 14 98, vp_in x2 150] (by decide +kernel) (by refine qt_aload_n (r := 79) rfl ?_; refine qt_getR (r := 98) rfl rfl rfl ?_; refine qt_iload_n (x := x2) rfl ?_; refine qt_iald ?_; refine qt_istore_n (L' := [some (.ref (79)), some (.int (x1)), some (.int (x2)), some (.int (w.1 98 (Int32.toNatClampNeg x2)))]) rfl ?_; refine qt_iload_n (x := w.1 98 (Int32.toNatClampNeg x2)) rfl ?_; refine qt_iconst qc_1 ?_; exact qt_z rfl rfl rfl rfl rfl) ⟨(q_id_of rfl), (q_id_of rfl), ho14⟩ ?_
    refine s_icmp (cd := .gt) (off := 39) 60 (by decide +kernel) (by decide) (fun hc => ?_) (fun hc => ?_)
    · replace h := h.1 hc
      obtain ⟨ho5, h⟩ := h
      obtain ⟨ho6, h⟩ := h
      refine s_blk [(.iinc 1 (-1), 3, 0, 0), (.aload_n 0, 1, 0, 0), (.getfield 77, 3, 12, 38), (.iload_n 1, 1, 0, 0), (.iconst 1, 1, 0, 0), (.isub, 1, 0, 0), (.iload_n 3, 1, 0, 0), (.aload_n 0, 1, 0, 0), (.getfield 77, 3, 12, 38), (.iload_n 1, 1, 0, 0), (.iconst 1, 1, 0, 0), (.isub, 1, 0, 0), (.iaload, 1, 0, 0), (.aload_n 0, 1, 0, 0), (.getfield 77, 3, 12, 38), (.iload_n 1, 1, 0, 0), (.iaload, 1, 0, 0)] 85 [some (.ref (79)), some (.int (x1 + (-1))), some (.int (x2)), some (.int (w.1 98 (Int32.toNatClampNeg x2)))] [.int (w.1 100 (Int32.toNatClampNeg (x1 + (-1)))), .int (w.1 100 (Int32.toNatClampNeg ((x1 + (-1)) - 1))), .int (w.1 98 (Int32.toNatClampNeg x2)), .int ((x1 + (-1)) - 1), .ref (100)] w [q_id 116 12 79, q_id 116 12 79, q_id 116 14 100, vp_in ((x1 + (-1)) - 1) 150, q_id 116 12 79, q_id 116 14 100, vp_in (x1 + (-1)) 150] (by decide +kernel) (by refine qt_iinc (x := x1) (L' := [some (.ref (79)), some (.int (x1 + (-1))), some (.int (x2)), some (.int (w.1 98 (Int32.toNatClampNeg x2)))]) rfl qc_m1 rfl ?_; refine qt_aload_n (r := 79) rfl ?_; refine qt_getR (r := 100) rfl rfl rfl ?_; refine qt_iload_n (x := x1 + (-1)) rfl ?_; refine qt_iconst qc_1 ?_; refine qt_isub ?_; refine qt_iload_n (x := w.1 98 (Int32.toNatClampNeg x2)) rfl ?_; refine qt_aload_n (r := 79) rfl ?_; refine qt_getR (r := 100) rfl rfl rfl ?_; refine qt_iload_n (x := x1 + (-1)) rfl ?_; refine qt_iconst qc_1 ?_; refine qt_isub ?_; refine qt_iald ?_; refine qt_aload_n (r := 79) rfl ?_; refine qt_getR (r := 100) rfl rfl rfl ?_; refine qt_iload_n (x := x1 + (-1)) rfl ?_; refine qt_iald ?_; exact qt_z rfl rfl rfl rfl rfl) ⟨(q_id_of rfl), (q_id_of rfl), (q_id_of rfl), ho5, (q_id_of rfl), (q_id_of rfl), ho6⟩ ?_
      refine s_callS (a := 0) (a' := 0) (As := [.int (w.1 98 (Int32.toNatClampNeg x2)), .int (w.1 100 (Int32.toNatClampNeg ((x1 + (-1)) - 1))), .int (w.1 100 (Int32.toNatClampNeg (x1 + (-1))))]) (st := [.int ((x1 + (-1)) - 1), .ref (100)]) kX12_both l_12_344 (by decide +kernel) rfl (Nat.le_of_ble_eq_true rfl) (s_mono h (s_I_of (fun v1 u2 h => ?_)) (fun _ _ h9 => h9))
      show s_Ex (d + 1) 0 mX12_valueNow 88 [some (.ref (79)), some (.int (x1 + (-1))), some (.int (x2)), some (.int (w.1 98 (Int32.toNatClampNeg x2)))] [.int (v1), .int ((x1 + (-1)) - 1), .ref (100)] u2 Q X
      obtain ⟨ho4, h⟩ := h
      replace h := h _ rfl
      refine s_blk [(.iastore, 1, 0, 0), (.iinc 2 1, 3, 0, 0), (.goto (-88), 3, 4, 0), (.nop, 0, 3, 0)] 4 [some (.ref (79)), some (.int (x1 + (-1))), some (.int (x2 + 1)), none] [] (q_wI u2 100 (Int32.toNatClampNeg ((x1 + (-1)) - 1)) v1) [q_id 116 14 100, vp_in ((x1 + (-1)) - 1) 150] (by decide +kernel) (by refine qt_iast ?_; refine qt_iinc (x := x2) (L' := [some (.ref (79)), some (.int (x1 + (-1))), some (.int (x2 + 1)), some (.int (w.1 98 (Int32.toNatClampNeg x2)))]) rfl qc_1 rfl ?_; refine qt_goto ?_; refine qt_nop (L' := [some (.ref (79)), some (.int (x1 + (-1))), some (.int (x2 + 1)), none]) rfl ?_; exact qt_z rfl rfl rfl rfl rfl) ⟨(q_id_of rfl), ho4⟩ ?_
      exact h
    · replace h := h.2 hc
      refine s_blk [(.aload_n 0, 1, 0, 0), (.getfield 77, 3, 12, 38), (.iload_n 1, 1, 0, 0), (.iload_n 3, 1, 0, 0)] 30 [some (.ref (79)), some (.int (x1)), some (.int (x2)), some (.int (w.1 98 (Int32.toNatClampNeg x2)))] [.int (w.1 98 (Int32.toNatClampNeg x2)), .int (x1), .ref (100)] w [q_id 116 12 79] (by decide +kernel) (by refine qt_aload_n (r := 79) rfl ?_; refine qt_getR (r := 100) rfl rfl rfl ?_; refine qt_iload_n (x := x1) rfl ?_; refine qt_iload_n (x := w.1 98 (Int32.toNatClampNeg x2)) rfl ?_; exact qt_z rfl rfl rfl rfl rfl) (q_id_of rfl) ?_
      refine s_if (cd := .ne) (off := 12) 42 (by decide +kernel) (by decide) (fun hc => ?_) (fun hc => ?_)
      · replace h := h.1 hc
        obtain ⟨ho8, h⟩ := h
        obtain ⟨ho9, h⟩ := h
        obtain ⟨ho10, h⟩ := h
        replace h := h _ rfl
        refine s_blk [(.aload_n 0, 1, 0, 0), (.getfield 80, 3, 12, 41), (.aload_n 0, 1, 0, 0), (.getfield 74, 3, 12, 37), (.iload_n 2, 1, 0, 0), (.iaload, 1, 0, 0), (.iaload, 1, 0, 0), (.iastore, 1, 0, 0), (.iinc 1 1, 3, 0, 0), (.goto 32, 3, 89, 0), (.iinc 2 1, 3, 0, 0), (.goto (-88), 3, 4, 0), (.nop, 0, 3, 0)] 4 [some (.ref (79)), some (.int (x1 + 1)), some (.int (x2 + 1)), none] [] (q_wI w 100 (Int32.toNatClampNeg x1) (w.1 101 (Int32.toNatClampNeg (w.1 99 (Int32.toNatClampNeg x2))))) [q_id 116 12 79, q_id 116 12 79, q_id 116 14 99, vp_in x2 150, q_id 116 14 101, vp_in (w.1 99 (Int32.toNatClampNeg x2)) 7, q_id 116 14 100, vp_in x1 150] (by decide +kernel) (by refine qt_aload_n (r := 79) rfl ?_; refine qt_getR (r := 101) rfl rfl rfl ?_; refine qt_aload_n (r := 79) rfl ?_; refine qt_getR (r := 99) rfl rfl rfl ?_; refine qt_iload_n (x := x2) rfl ?_; refine qt_iald ?_; refine qt_iald ?_; refine qt_iast ?_; refine qt_iinc (x := x1) (L' := [some (.ref (79)), some (.int (x1 + 1)), some (.int (x2)), some (.int (w.1 98 (Int32.toNatClampNeg x2)))]) rfl qc_1 rfl ?_; refine qt_goto ?_; refine qt_iinc (x := x2) (L' := [some (.ref (79)), some (.int (x1 + 1)), some (.int (x2 + 1)), some (.int (w.1 98 (Int32.toNatClampNeg x2)))]) rfl qc_1 rfl ?_; refine qt_goto ?_; refine qt_nop (L' := [some (.ref (79)), some (.int (x1 + 1)), some (.int (x2 + 1)), none]) rfl ?_; exact qt_z rfl rfl rfl rfl rfl) ⟨(q_id_of rfl), (q_id_of rfl), (q_id_of rfl), ho8, (q_id_of rfl), ho9, (q_id_of rfl), ho10⟩ ?_
        exact h
      · replace h := h.2 hc
        obtain ⟨ho12, h⟩ := h
        obtain ⟨ho13, h⟩ := h
        replace h := h _ rfl
        refine s_blk [(.aload_n 0, 1, 0, 0), (.getfield 74, 3, 12, 37), (.iload_n 2, 1, 0, 0), (.iaload, 1, 0, 0), (.goto 14, 3, 53, 0), (.iastore, 1, 0, 0), (.iinc 1 1, 3, 0, 0), (.goto 32, 3, 89, 0), (.iinc 2 1, 3, 0, 0), (.goto (-88), 3, 4, 0), (.nop, 0, 3, 0)] 4 [some (.ref (79)), some (.int (x1 + 1)), some (.int (x2 + 1)), none] [] (q_wI w 100 (Int32.toNatClampNeg x1) (w.1 99 (Int32.toNatClampNeg x2))) [q_id 116 12 79, q_id 116 14 99, vp_in x2 150, q_id 116 14 100, vp_in x1 150] (by decide +kernel) (by refine qt_aload_n (r := 79) rfl ?_; refine qt_getR (r := 99) rfl rfl rfl ?_; refine qt_iload_n (x := x2) rfl ?_; refine qt_iald ?_; refine qt_goto ?_; refine qt_iast ?_; refine qt_iinc (x := x1) (L' := [some (.ref (79)), some (.int (x1 + 1)), some (.int (x2)), some (.int (w.1 98 (Int32.toNatClampNeg x2)))]) rfl qc_1 rfl ?_; refine qt_goto ?_; refine qt_iinc (x := x2) (L' := [some (.ref (79)), some (.int (x1 + 1)), some (.int (x2 + 1)), some (.int (w.1 98 (Int32.toNatClampNeg x2)))]) rfl qc_1 rfl ?_; refine qt_goto ?_; refine qt_nop (L' := [some (.ref (79)), some (.int (x1 + 1)), some (.int (x2 + 1)), none]) rfl ?_; exact qt_z rfl rfl rfl rfl rfl) ⟨(q_id_of rfl), (q_id_of rfl), ho12, (q_id_of rfl), ho13⟩ ?_
        exact h
theorem eX12_valueNow {d : Nat}  {w : q_Sm} {Q : s_Po} {X : s_Xo} (h : vX12_valueNow_0 d  w Q X) : s_Ev (d + 1) 0 mX12_valueNow w [.ref (79)] Q X := s_of (by decide +kernel) rfl (Nat.le_of_ble_eq_true rfl) (xX12_valueNow_0 h)
def vX12_both_0 (d : Nat) (x0 : Int32) (x1 : Int32) (x2 : Int32) (w : q_Sm) (Q : s_Po) (X : s_Xo) : Prop := ((¬ x0 = 2) → ((¬ x0 = 3) → ((¬ x0 = 4) → ((¬ x0 = 5) → ((x2 ≤ x1) → ((¬ x0 = 6) → ((¬ (0 : Int32) = 0) → Q (some (.int (x2))) w) ∧ (¬ (¬ (0 : Int32) = 0) → Q (some (.int (x1))) w)) ∧ (¬ (¬ x0 = 6) → ((¬ (0 : Int32) = 1) → Q (some (.int (x2))) w) ∧ (¬ (¬ (0 : Int32) = 1) → Q (some (.int (x1))) w))) ∧ (¬ (x2 ≤ x1) → ((¬ x0 = 6) → ((¬ (1 : Int32) = 0) → Q (some (.int (x2))) w) ∧ (¬ (¬ (1 : Int32) = 0) → Q (some (.int (x1))) w)) ∧ (¬ (¬ x0 = 6) → ((¬ (1 : Int32) = 1) → Q (some (.int (x2))) w) ∧ (¬ (¬ (1 : Int32) = 1) → Q (some (.int (x1))) w)))) ∧ (¬ (¬ x0 = 5) → ((¬ x2 = 0) → (¬ x2 = 0) ∧ Q (some (.int (x1 / x2))) w) ∧ (¬ (¬ x2 = 0) → Q (some (.int (0))) w))) ∧ (¬ (¬ x0 = 4) → Q (some (.int (x1 * x2))) w)) ∧ (¬ (¬ x0 = 3) → Q (some (.int (x1 - x2))) w)) ∧ (¬ (¬ x0 = 2) → Q (some (.int (x1 + x2))) w)
theorem xX12_both_0 {d : Nat} {x0 : Int32} {x1 : Int32} {x2 : Int32} {w : q_Sm} {Q : s_Po} {X : s_Xo} (h : vX12_both_0 d x0 x1 x2 w Q X) : s_Ex (d + 1) 0 mX12_both 0 [some (.int (x0)), some (.int (x1)), some (.int (x2))] [] w Q X := by
  unfold vX12_both_0 at h
  refine s_blk [(.iload_n 0, 1, 0, 0), (.iconst 2, 1, 0, 0)] 2 [some (.int (x0)), some (.int (x1)), some (.int (x2))] [.int (2), .int (x0)] w [] (by decide +kernel) (by refine qt_iload_n (x := x0) rfl ?_; refine qt_iconst qc_2 ?_; exact qt_z rfl rfl rfl rfl rfl) trivial ?_
  refine s_icmp (cd := .ne) (off := 7) 9 (by decide +kernel) (by decide) (fun hc => ?_) (fun hc => ?_)
  · replace h := h.1 hc
    refine s_blk [(.iload_n 0, 1, 0, 0), (.iconst 3, 1, 0, 0)] 11 [some (.int (x0)), some (.int (x1)), some (.int (x2))] [.int (3), .int (x0)] w [] (by decide +kernel) (by refine qt_iload_n (x := x0) rfl ?_; refine qt_iconst qc_3 ?_; exact qt_z rfl rfl rfl rfl rfl) trivial ?_
    refine s_icmp (cd := .ne) (off := 7) 18 (by decide +kernel) (by decide) (fun hc => ?_) (fun hc => ?_)
    · replace h := h.1 hc
      refine s_blk [(.iload_n 0, 1, 0, 0), (.iconst 4, 1, 0, 0)] 20 [some (.int (x0)), some (.int (x1)), some (.int (x2))] [.int (4), .int (x0)] w [] (by decide +kernel) (by refine qt_iload_n (x := x0) rfl ?_; refine qt_iconst qc_4 ?_; exact qt_z rfl rfl rfl rfl rfl) trivial ?_
      refine s_icmp (cd := .ne) (off := 7) 27 (by decide +kernel) (by decide) (fun hc => ?_) (fun hc => ?_)
      · replace h := h.1 hc
        refine s_blk [(.iload_n 0, 1, 0, 0), (.iconst 5, 1, 0, 0)] 29 [some (.int (x0)), some (.int (x1)), some (.int (x2))] [.int (5), .int (x0)] w [] (by decide +kernel) (by refine qt_iload_n (x := x0) rfl ?_; refine qt_iconst qc_5 ?_; exact qt_z rfl rfl rfl rfl rfl) trivial ?_
        refine s_icmp (cd := .ne) (off := 15) 44 (by decide +kernel) (by decide) (fun hc => ?_) (fun hc => ?_)
        · replace h := h.1 hc
          refine s_blk [(.iload_n 1, 1, 0, 0), (.iload_n 2, 1, 0, 0)] 46 [some (.int (x0)), some (.int (x1)), some (.int (x2))] [.int (x2), .int (x1)] w [] (by decide +kernel) (by refine qt_iload_n (x := x1) rfl ?_; refine qt_iload_n (x := x2) rfl ?_; exact qt_z rfl rfl rfl rfl rfl) trivial ?_
          refine s_icmp (cd := .ge) (off := 7) 53 (by decide +kernel) (by decide) (fun hc => ?_) (fun hc => ?_)
          · replace h := h.1 hc
            refine s_blk [(.iconst 0, 1, 0, 0), (.iload_n 0, 1, 0, 0), (.bipush 6, 2, 0, 0)] 57 [some (.int (x0)), some (.int (x1)), some (.int (x2))] [.int (6), .int (x0), .int (0)] w [] (by decide +kernel) (by refine qt_iconst qc_0 ?_; refine qt_iload_n (x := x0) rfl ?_; refine qt_bipush qb_6 ?_; exact qt_z rfl rfl rfl rfl rfl) trivial ?_
            refine s_icmp (cd := .ne) (off := 7) 64 (by decide +kernel) (by decide) (fun hc => ?_) (fun hc => ?_)
            · replace h := h.1 hc
              refine s_blk [(.iconst 0, 1, 0, 0)] 65 [some (.int (x0)), some (.int (x1)), some (.int (x2))] [.int (0), .int (0)] w [] (by decide +kernel) (by refine qt_iconst qc_0 ?_; exact qt_z rfl rfl rfl rfl rfl) trivial ?_
              refine s_icmp (cd := .ne) (off := 7) 72 (by decide +kernel) (by decide) (fun hc => ?_) (fun hc => ?_)
              · replace h := h.1 hc
                refine s_blk [(.iload_n 2, 1, 0, 0)] 73 [some (.int (x0)), some (.int (x1)), some (.int (x2))] [.int (x2)] w [] (by decide +kernel) (by refine qt_iload_n (x := x2) rfl ?_; exact qt_z rfl rfl rfl rfl rfl) trivial ?_
                exact s_retI .int (by decide +kernel) rfl rfl h
              · replace h := h.2 hc
                refine s_blk [(.iload_n 1, 1, 0, 0), (.goto 4, 3, 73, 0)] 73 [some (.int (x0)), some (.int (x1)), some (.int (x2))] [.int (x1)] w [] (by decide +kernel) (by refine qt_iload_n (x := x1) rfl ?_; refine qt_goto ?_; exact qt_z rfl rfl rfl rfl rfl) trivial ?_
                exact s_retI .int (by decide +kernel) rfl rfl h
            · replace h := h.2 hc
              refine s_blk [(.iconst 1, 1, 0, 0), (.goto 4, 3, 65, 0)] 65 [some (.int (x0)), some (.int (x1)), some (.int (x2))] [.int (1), .int (0)] w [] (by decide +kernel) (by refine qt_iconst qc_1 ?_; refine qt_goto ?_; exact qt_z rfl rfl rfl rfl rfl) trivial ?_
              refine s_icmp (cd := .ne) (off := 7) 72 (by decide +kernel) (by decide) (fun hc => ?_) (fun hc => ?_)
              · replace h := h.1 hc
                refine s_blk [(.iload_n 2, 1, 0, 0)] 73 [some (.int (x0)), some (.int (x1)), some (.int (x2))] [.int (x2)] w [] (by decide +kernel) (by refine qt_iload_n (x := x2) rfl ?_; exact qt_z rfl rfl rfl rfl rfl) trivial ?_
                exact s_retI .int (by decide +kernel) rfl rfl h
              · replace h := h.2 hc
                refine s_blk [(.iload_n 1, 1, 0, 0), (.goto 4, 3, 73, 0)] 73 [some (.int (x0)), some (.int (x1)), some (.int (x2))] [.int (x1)] w [] (by decide +kernel) (by refine qt_iload_n (x := x1) rfl ?_; refine qt_goto ?_; exact qt_z rfl rfl rfl rfl rfl) trivial ?_
                exact s_retI .int (by decide +kernel) rfl rfl h
          · replace h := h.2 hc
            refine s_blk [(.iconst 1, 1, 0, 0), (.goto 4, 3, 54, 0), (.iload_n 0, 1, 0, 0), (.bipush 6, 2, 0, 0)] 57 [some (.int (x0)), some (.int (x1)), some (.int (x2))] [.int (6), .int (x0), .int (1)] w [] (by decide +kernel) (by refine qt_iconst qc_1 ?_; refine qt_goto ?_; refine qt_iload_n (x := x0) rfl ?_; refine qt_bipush qb_6 ?_; exact qt_z rfl rfl rfl rfl rfl) trivial ?_
            refine s_icmp (cd := .ne) (off := 7) 64 (by decide +kernel) (by decide) (fun hc => ?_) (fun hc => ?_)
            · replace h := h.1 hc
              refine s_blk [(.iconst 0, 1, 0, 0)] 65 [some (.int (x0)), some (.int (x1)), some (.int (x2))] [.int (0), .int (1)] w [] (by decide +kernel) (by refine qt_iconst qc_0 ?_; exact qt_z rfl rfl rfl rfl rfl) trivial ?_
              refine s_icmp (cd := .ne) (off := 7) 72 (by decide +kernel) (by decide) (fun hc => ?_) (fun hc => ?_)
              · replace h := h.1 hc
                refine s_blk [(.iload_n 2, 1, 0, 0)] 73 [some (.int (x0)), some (.int (x1)), some (.int (x2))] [.int (x2)] w [] (by decide +kernel) (by refine qt_iload_n (x := x2) rfl ?_; exact qt_z rfl rfl rfl rfl rfl) trivial ?_
                exact s_retI .int (by decide +kernel) rfl rfl h
              · replace h := h.2 hc
                refine s_blk [(.iload_n 1, 1, 0, 0), (.goto 4, 3, 73, 0)] 73 [some (.int (x0)), some (.int (x1)), some (.int (x2))] [.int (x1)] w [] (by decide +kernel) (by refine qt_iload_n (x := x1) rfl ?_; refine qt_goto ?_; exact qt_z rfl rfl rfl rfl rfl) trivial ?_
                exact s_retI .int (by decide +kernel) rfl rfl h
            · replace h := h.2 hc
              refine s_blk [(.iconst 1, 1, 0, 0), (.goto 4, 3, 65, 0)] 65 [some (.int (x0)), some (.int (x1)), some (.int (x2))] [.int (1), .int (1)] w [] (by decide +kernel) (by refine qt_iconst qc_1 ?_; refine qt_goto ?_; exact qt_z rfl rfl rfl rfl rfl) trivial ?_
              refine s_icmp (cd := .ne) (off := 7) 72 (by decide +kernel) (by decide) (fun hc => ?_) (fun hc => ?_)
              · replace h := h.1 hc
                refine s_blk [(.iload_n 2, 1, 0, 0)] 73 [some (.int (x0)), some (.int (x1)), some (.int (x2))] [.int (x2)] w [] (by decide +kernel) (by refine qt_iload_n (x := x2) rfl ?_; exact qt_z rfl rfl rfl rfl rfl) trivial ?_
                exact s_retI .int (by decide +kernel) rfl rfl h
              · replace h := h.2 hc
                refine s_blk [(.iload_n 1, 1, 0, 0), (.goto 4, 3, 73, 0)] 73 [some (.int (x0)), some (.int (x1)), some (.int (x2))] [.int (x1)] w [] (by decide +kernel) (by refine qt_iload_n (x := x1) rfl ?_; refine qt_goto ?_; exact qt_z rfl rfl rfl rfl rfl) trivial ?_
                exact s_retI .int (by decide +kernel) rfl rfl h
        · replace h := h.2 hc
          refine s_blk [(.iload_n 2, 1, 0, 0)] 33 [some (.int (x0)), some (.int (x1)), some (.int (x2))] [.int (x2)] w [] (by decide +kernel) (by refine qt_iload_n (x := x2) rfl ?_; exact qt_z rfl rfl rfl rfl rfl) trivial ?_
          refine s_if (cd := .ne) (off := 7) 40 (by decide +kernel) (by decide) (fun hc => ?_) (fun hc => ?_)
          · replace h := h.1 hc
            obtain ⟨ho1, h⟩ := h
            refine s_blk [(.iload_n 1, 1, 0, 0), (.iload_n 2, 1, 0, 0), (.idiv, 1, 0, 0)] 43 [some (.int (x0)), some (.int (x1)), some (.int (x2))] [.int (x1 / x2)] w [¬ x2 = 0] (by decide +kernel) (by refine qt_iload_n (x := x1) rfl ?_; refine qt_iload_n (x := x2) rfl ?_; refine qt_idiv ?_; exact qt_z rfl rfl rfl rfl rfl) ho1 ?_
            exact s_retI .int (by decide +kernel) rfl rfl h
          · replace h := h.2 hc
            refine s_blk [(.iconst 0, 1, 0, 0), (.goto 6, 3, 43, 0)] 43 [some (.int (x0)), some (.int (x1)), some (.int (x2))] [.int (0)] w [] (by decide +kernel) (by refine qt_iconst qc_0 ?_; refine qt_goto ?_; exact qt_z rfl rfl rfl rfl rfl) trivial ?_
            exact s_retI .int (by decide +kernel) rfl rfl h
      · replace h := h.2 hc
        refine s_blk [(.iload_n 1, 1, 0, 0), (.iload_n 2, 1, 0, 0), (.imul, 1, 0, 0)] 26 [some (.int (x0)), some (.int (x1)), some (.int (x2))] [.int (x1 * x2)] w [] (by decide +kernel) (by refine qt_iload_n (x := x1) rfl ?_; refine qt_iload_n (x := x2) rfl ?_; refine qt_imul ?_; exact qt_z rfl rfl rfl rfl rfl) trivial ?_
        exact s_retI .int (by decide +kernel) rfl rfl h
    · replace h := h.2 hc
      refine s_blk [(.iload_n 1, 1, 0, 0), (.iload_n 2, 1, 0, 0), (.isub, 1, 0, 0)] 17 [some (.int (x0)), some (.int (x1)), some (.int (x2))] [.int (x1 - x2)] w [] (by decide +kernel) (by refine qt_iload_n (x := x1) rfl ?_; refine qt_iload_n (x := x2) rfl ?_; refine qt_isub ?_; exact qt_z rfl rfl rfl rfl rfl) trivial ?_
      exact s_retI .int (by decide +kernel) rfl rfl h
  · replace h := h.2 hc
    refine s_blk [(.iload_n 1, 1, 0, 0), (.iload_n 2, 1, 0, 0), (.iadd, 1, 0, 0)] 8 [some (.int (x0)), some (.int (x1)), some (.int (x2))] [.int (x1 + x2)] w [] (by decide +kernel) (by refine qt_iload_n (x := x1) rfl ?_; refine qt_iload_n (x := x2) rfl ?_; refine qt_iadd ?_; exact qt_z rfl rfl rfl rfl rfl) trivial ?_
    exact s_retI .int (by decide +kernel) rfl rfl h
theorem eX12_both {d : Nat} {x0 : Int32} {x1 : Int32} {x2 : Int32} {w : q_Sm} {Q : s_Po} {X : s_Xo} (h : vX12_both_0 d x0 x1 x2 w Q X) : s_Ev (d + 1) 0 mX12_both w [.int (x0), .int (x1), .int (x2)] Q X := s_of (by decide +kernel) rfl (Nat.le_of_ble_eq_true rfl) (xX12_both_0 h)
def vX12_growsNow_0 (d : Nat)  (w : q_Sm) (Q : s_Po) (X : s_Xo) : Prop := ((¬ (w.1 79 40) = 0) → s_EvI d 0 mX12_valueNow w [.ref (79)] (fun v1 u2 => ((0 ≤ v1) → ((v1 ≤ 99) → Q (some (.int (v1))) u2) ∧ (¬ (v1 ≤ 99) → Q (some (.int (99))) u2)) ∧ (¬ (0 ≤ v1) → Q (some (.int (0))) u2)) X) ∧ (¬ (¬ (w.1 79 40) = 0) → ((0 ≤ (((w.1 101 (Int32.toNatClampNeg 0)) * (w.1 101 (Int32.toNatClampNeg 1))) / 16)) → (((((w.1 101 (Int32.toNatClampNeg 0)) * (w.1 101 (Int32.toNatClampNeg 1))) / 16) ≤ 99) → Q (some (.int (((w.1 101 (Int32.toNatClampNeg 0)) * (w.1 101 (Int32.toNatClampNeg 1))) / 16))) w) ∧ (¬ ((((w.1 101 (Int32.toNatClampNeg 0)) * (w.1 101 (Int32.toNatClampNeg 1))) / 16) ≤ 99) → Q (some (.int (99))) w)) ∧ (¬ (0 ≤ (((w.1 101 (Int32.toNatClampNeg 0)) * (w.1 101 (Int32.toNatClampNeg 1))) / 16)) → Q (some (.int (0))) w))
theorem xX12_growsNow_0 {d : Nat}  {w : q_Sm} {Q : s_Po} {X : s_Xo} (h : vX12_growsNow_0 d  w Q X) : s_Ex (d + 1) 0 mX12_growsNow 0 [some (.ref (79)), none] [] w Q X := by
  unfold vX12_growsNow_0 at h
  refine s_blk [(.aload_n 0, 1, 0, 0), (.getfield 212, 3, 12, 40)] 4 [some (.ref (79)), none] [.int (w.1 79 40)] w [q_id 116 12 79] (by decide +kernel) (by refine qt_aload_n (r := 79) rfl ?_; refine qt_getI rfl rfl ?_; exact qt_z rfl rfl rfl rfl rfl) (q_id_of rfl) ?_
  refine s_if (cd := .ne) (off := 22) 26 (by decide +kernel) (by decide) (fun hc => ?_) (fun hc => ?_)
  · replace h := h.1 hc
    refine s_blk [(.aload_n 0, 1, 0, 0)] 27 [some (.ref (79)), none] [.ref (79)] w [] (by decide +kernel) (by refine qt_aload_n (r := 79) rfl ?_; exact qt_z rfl rfl rfl rfl rfl) trivial ?_
    refine s_callV (a := 0) (a' := 0) (As := []) (id := 79) (st := []) kX12_valueNow l_12_348 (by decide +kernel) (q_id_of rfl) rfl (Nat.le_of_ble_eq_true rfl) (s_mono h (s_I_of (fun v1 u2 h => ?_)) (fun _ _ h9 => h9))
    show s_Ex (d + 1) 0 mX12_growsNow 30 [some (.ref (79)), none] [.int (v1)] u2 Q X
    refine s_blk [(.istore_n 1, 1, 0, 0), (.iload_n 1, 1, 0, 0)] 32 [some (.ref (79)), some (.int (v1))] [.int (v1)] u2 [] (by decide +kernel) (by refine qt_istore_n (L' := [some (.ref (79)), some (.int (v1))]) rfl ?_; refine qt_iload_n (x := v1) rfl ?_; exact qt_z rfl rfl rfl rfl rfl) trivial ?_
    refine s_if (cd := .ge) (off := 7) 39 (by decide +kernel) (by decide) (fun hc => ?_) (fun hc => ?_)
    · replace h := h.1 hc
      refine s_blk [(.iload_n 1, 1, 0, 0), (.bipush 99, 2, 0, 0)] 42 [some (.ref (79)), some (.int (v1))] [.int (99), .int (v1)] u2 [] (by decide +kernel) (by refine qt_iload_n (x := v1) rfl ?_; refine qt_bipush qb_99 ?_; exact qt_z rfl rfl rfl rfl rfl) trivial ?_
      refine s_icmp (cd := .le) (off := 8) 50 (by decide +kernel) (by decide) (fun hc => ?_) (fun hc => ?_)
      · replace h := h.1 hc
        refine s_blk [(.iload_n 1, 1, 0, 0)] 51 [some (.ref (79)), some (.int (v1))] [.int (v1)] u2 [] (by decide +kernel) (by refine qt_iload_n (x := v1) rfl ?_; exact qt_z rfl rfl rfl rfl rfl) trivial ?_
        exact s_retI .int (by decide +kernel) rfl rfl h
      · replace h := h.2 hc
        refine s_blk [(.bipush 99, 2, 0, 0), (.goto 4, 3, 51, 0)] 51 [some (.ref (79)), some (.int (v1))] [.int (99)] u2 [] (by decide +kernel) (by refine qt_bipush qb_99 ?_; refine qt_goto ?_; exact qt_z rfl rfl rfl rfl rfl) trivial ?_
        exact s_retI .int (by decide +kernel) rfl rfl h
    · replace h := h.2 hc
      refine s_blk [(.iconst 0, 1, 0, 0), (.goto 15, 3, 51, 0)] 51 [some (.ref (79)), some (.int (v1))] [.int (0)] u2 [] (by decide +kernel) (by refine qt_iconst qc_0 ?_; refine qt_goto ?_; exact qt_z rfl rfl rfl rfl rfl) trivial ?_
      exact s_retI .int (by decide +kernel) rfl rfl h
  · replace h := h.2 hc
    refine s_blk [(.aload_n 0, 1, 0, 0), (.getfield 80, 3, 12, 41), (.iconst 0, 1, 0, 0), (.iaload, 1, 0, 0), (.aload_n 0, 1, 0, 0), (.getfield 80, 3, 12, 41), (.iconst 1, 1, 0, 0), (.iaload, 1, 0, 0), (.imul, 1, 0, 0), (.bipush 16, 2, 0, 0), (.idiv, 1, 0, 0), (.goto 7, 3, 30, 0), (.istore_n 1, 1, 0, 0), (.iload_n 1, 1, 0, 0)] 32 [some (.ref (79)), some (.int (((w.1 101 (Int32.toNatClampNeg 0)) * (w.1 101 (Int32.toNatClampNeg 1))) / 16))] [.int (((w.1 101 (Int32.toNatClampNeg 0)) * (w.1 101 (Int32.toNatClampNeg 1))) / 16)] w [q_id 116 12 79, q_id 116 14 101, vp_in 0 7, q_id 116 12 79, q_id 116 14 101, vp_in 1 7, ¬ (16 : Int32) = 0] (by decide +kernel) (by refine qt_aload_n (r := 79) rfl ?_; refine qt_getR (r := 101) rfl rfl rfl ?_; refine qt_iconst qc_0 ?_; refine qt_iald ?_; refine qt_aload_n (r := 79) rfl ?_; refine qt_getR (r := 101) rfl rfl rfl ?_; refine qt_iconst qc_1 ?_; refine qt_iald ?_; refine qt_imul ?_; refine qt_bipush qb_16 ?_; refine qt_idiv ?_; refine qt_goto ?_; refine qt_istore_n (L' := [some (.ref (79)), some (.int (((w.1 101 (Int32.toNatClampNeg 0)) * (w.1 101 (Int32.toNatClampNeg 1))) / 16))]) rfl ?_; refine qt_iload_n (x := ((w.1 101 (Int32.toNatClampNeg 0)) * (w.1 101 (Int32.toNatClampNeg 1))) / 16) rfl ?_; exact qt_z rfl rfl rfl rfl rfl) ⟨(q_id_of rfl), (q_id_of rfl), (q_vin rfl), (q_id_of rfl), (q_id_of rfl), (q_vin rfl), (show ¬ (16 : Int32) = 0 from by decide)⟩ ?_
    refine s_if (cd := .ge) (off := 7) 39 (by decide +kernel) (by decide) (fun hc => ?_) (fun hc => ?_)
    · replace h := h.1 hc
      refine s_blk [(.iload_n 1, 1, 0, 0), (.bipush 99, 2, 0, 0)] 42 [some (.ref (79)), some (.int (((w.1 101 (Int32.toNatClampNeg 0)) * (w.1 101 (Int32.toNatClampNeg 1))) / 16))] [.int (99), .int (((w.1 101 (Int32.toNatClampNeg 0)) * (w.1 101 (Int32.toNatClampNeg 1))) / 16)] w [] (by decide +kernel) (by refine qt_iload_n (x := ((w.1 101 (Int32.toNatClampNeg 0)) * (w.1 101 (Int32.toNatClampNeg 1))) / 16) rfl ?_; refine qt_bipush qb_99 ?_; exact qt_z rfl rfl rfl rfl rfl) trivial ?_
      refine s_icmp (cd := .le) (off := 8) 50 (by decide +kernel) (by decide) (fun hc => ?_) (fun hc => ?_)
      · replace h := h.1 hc
        refine s_blk [(.iload_n 1, 1, 0, 0)] 51 [some (.ref (79)), some (.int (((w.1 101 (Int32.toNatClampNeg 0)) * (w.1 101 (Int32.toNatClampNeg 1))) / 16))] [.int (((w.1 101 (Int32.toNatClampNeg 0)) * (w.1 101 (Int32.toNatClampNeg 1))) / 16)] w [] (by decide +kernel) (by refine qt_iload_n (x := ((w.1 101 (Int32.toNatClampNeg 0)) * (w.1 101 (Int32.toNatClampNeg 1))) / 16) rfl ?_; exact qt_z rfl rfl rfl rfl rfl) trivial ?_
        exact s_retI .int (by decide +kernel) rfl rfl h
      · replace h := h.2 hc
        refine s_blk [(.bipush 99, 2, 0, 0), (.goto 4, 3, 51, 0)] 51 [some (.ref (79)), some (.int (((w.1 101 (Int32.toNatClampNeg 0)) * (w.1 101 (Int32.toNatClampNeg 1))) / 16))] [.int (99)] w [] (by decide +kernel) (by refine qt_bipush qb_99 ?_; refine qt_goto ?_; exact qt_z rfl rfl rfl rfl rfl) trivial ?_
        exact s_retI .int (by decide +kernel) rfl rfl h
    · replace h := h.2 hc
      refine s_blk [(.iconst 0, 1, 0, 0), (.goto 15, 3, 51, 0)] 51 [some (.ref (79)), some (.int (((w.1 101 (Int32.toNatClampNeg 0)) * (w.1 101 (Int32.toNatClampNeg 1))) / 16))] [.int (0)] w [] (by decide +kernel) (by refine qt_iconst qc_0 ?_; refine qt_goto ?_; exact qt_z rfl rfl rfl rfl rfl) trivial ?_
      exact s_retI .int (by decide +kernel) rfl rfl h
theorem eX12_growsNow {d : Nat}  {w : q_Sm} {Q : s_Po} {X : s_Xo} (h : vX12_growsNow_0 d  w Q X) : s_Ev (d + 1) 0 mX12_growsNow w [.ref (79)] Q X := s_of (by decide +kernel) rfl (Nat.le_of_ble_eq_true rfl) (xX12_growsNow_0 h)
def vX12_tellsStep_0 (d : Nat) (x1 : Int32) (x2 : Int32) (x3 : Int32) (w : q_Sm) (Q : s_Po) (X : s_Xo) : Prop := s_EvI d 0 mX12_fine w [.ref (79)] (fun v1 u2 => ((¬ v1 = 0) → (vp_in (u2.1 79 44) 150) ∧ ∀ w_3 : q_Sm, w_3 = q_wI u2 102 (Int32.toNatClampNeg (u2.1 79 44)) x1 → (vp_in ((w_3.1 79 44) + 1) 150) ∧ ∀ w_4 : q_Sm, w_4 = q_wI w_3 102 (Int32.toNatClampNeg ((w_3.1 79 44) + 1)) x2 → (vp_in ((w_4.1 79 44) + 2) 150) ∧ ∀ w_5 : q_Sm, w_5 = q_wI w_4 102 (Int32.toNatClampNeg ((w_4.1 79 44) + 2)) x3 → ∀ w_6 : q_Sm, w_6 = q_wI w_5 79 44 ((w_5.1 79 44) + 3) → Q none w_6) ∧ (¬ (¬ v1 = 0) → Q none u2)) X
theorem xX12_tellsStep_0 {d : Nat} {x1 : Int32} {x2 : Int32} {x3 : Int32} {w : q_Sm} {Q : s_Po} {X : s_Xo} (h : vX12_tellsStep_0 d x1 x2 x3 w Q X) : s_Ex (d + 1) 0 mX12_tellsStep 0 [some (.ref (79)), some (.int (x1)), some (.int (x2)), some (.int (x3))] [] w Q X := by
  unfold vX12_tellsStep_0 at h
  refine s_blk [(.aload_n 0, 1, 0, 0)] 1 [some (.ref (79)), some (.int (x1)), some (.int (x2)), some (.int (x3))] [.ref (79)] w [] (by decide +kernel) (by refine qt_aload_n (r := 79) rfl ?_; exact qt_z rfl rfl rfl rfl rfl) trivial ?_
  refine s_callV (a := 0) (a' := 0) (As := []) (id := 79) (st := []) kX12_fine l_12_164 (by decide +kernel) (q_id_of rfl) rfl (Nat.le_of_ble_eq_true rfl) (s_mono h (s_I_of (fun v1 u2 h => ?_)) (fun _ _ h9 => h9))
  show s_Ex (d + 1) 0 mX12_tellsStep 4 [some (.ref (79)), some (.int (x1)), some (.int (x2)), some (.int (x3))] [.int (v1)] u2 Q X
  refine s_if (cd := .ne) (off := 4) 8 (by decide +kernel) (by decide) (fun hc => ?_) (fun hc => ?_)
  · replace h := h.1 hc
    obtain ⟨ho7, h⟩ := h
    replace h := h _ rfl
    obtain ⟨ho8, h⟩ := h
    replace h := h _ rfl
    obtain ⟨ho9, h⟩ := h
    replace h := h _ rfl
    replace h := h _ rfl
    refine s_blk [(.aload_n 0, 1, 0, 0), (.getfield 83, 3, 12, 42), (.aload_n 0, 1, 0, 0), (.getfield 351, 3, 12, 44), (.iload_n 1, 1, 0, 0), (.iastore, 1, 0, 0), (.aload_n 0, 1, 0, 0), (.getfield 83, 3, 12, 42), (.aload_n 0, 1, 0, 0), (.getfield 351, 3, 12, 44), (.iconst 1, 1, 0, 0), (.iadd, 1, 0, 0), (.iload_n 2, 1, 0, 0), (.iastore, 1, 0, 0), (.aload_n 0, 1, 0, 0), (.getfield 83, 3, 12, 42), (.aload_n 0, 1, 0, 0), (.getfield 351, 3, 12, 44), (.iconst 2, 1, 0, 0), (.iadd, 1, 0, 0), (.iload_n 3, 1, 0, 0), (.iastore, 1, 0, 0), (.aload_n 0, 1, 0, 0), (.dup, 1, 0, 0), (.getfield 351, 3, 12, 44), (.iconst 3, 1, 0, 0), (.iadd, 1, 0, 0), (.putfield 351, 3, 12, 44)] 52 [some (.ref (79)), some (.int (x1)), some (.int (x2)), some (.int (x3))] [] (q_wI (q_wI (q_wI (q_wI u2 102 (Int32.toNatClampNeg (u2.1 79 44)) x1) 102 (Int32.toNatClampNeg (((q_wI u2 102 (Int32.toNatClampNeg (u2.1 79 44)) x1).1 79 44) + 1)) x2) 102 (Int32.toNatClampNeg (((q_wI (q_wI u2 102 (Int32.toNatClampNeg (u2.1 79 44)) x1) 102 (Int32.toNatClampNeg (((q_wI u2 102 (Int32.toNatClampNeg (u2.1 79 44)) x1).1 79 44) + 1)) x2).1 79 44) + 2)) x3) 79 44 (((q_wI (q_wI (q_wI u2 102 (Int32.toNatClampNeg (u2.1 79 44)) x1) 102 (Int32.toNatClampNeg (((q_wI u2 102 (Int32.toNatClampNeg (u2.1 79 44)) x1).1 79 44) + 1)) x2) 102 (Int32.toNatClampNeg (((q_wI (q_wI u2 102 (Int32.toNatClampNeg (u2.1 79 44)) x1) 102 (Int32.toNatClampNeg (((q_wI u2 102 (Int32.toNatClampNeg (u2.1 79 44)) x1).1 79 44) + 1)) x2).1 79 44) + 2)) x3).1 79 44) + 3)) [q_id 116 12 79, q_id 116 12 79, q_id 116 14 102, vp_in (u2.1 79 44) 150, q_id 116 12 79, q_id 116 12 79, q_id 116 14 102, vp_in (((q_wI u2 102 (Int32.toNatClampNeg (u2.1 79 44)) x1).1 79 44) + 1) 150, q_id 116 12 79, q_id 116 12 79, q_id 116 14 102, vp_in (((q_wI (q_wI u2 102 (Int32.toNatClampNeg (u2.1 79 44)) x1) 102 (Int32.toNatClampNeg (((q_wI u2 102 (Int32.toNatClampNeg (u2.1 79 44)) x1).1 79 44) + 1)) x2).1 79 44) + 2) 150, q_id 116 12 79, q_id 116 12 79] (by decide +kernel) (by refine qt_aload_n (r := 79) rfl ?_; refine qt_getR (r := 102) rfl rfl rfl ?_; refine qt_aload_n (r := 79) rfl ?_; refine qt_getI rfl rfl ?_; refine qt_iload_n (x := x1) rfl ?_; refine qt_iast ?_; refine qt_aload_n (r := 79) rfl ?_; refine qt_getR (r := 102) rfl rfl rfl ?_; refine qt_aload_n (r := 79) rfl ?_; refine qt_getI rfl rfl ?_; refine qt_iconst qc_1 ?_; refine qt_iadd ?_; refine qt_iload_n (x := x2) rfl ?_; refine qt_iast ?_; refine qt_aload_n (r := 79) rfl ?_; refine qt_getR (r := 102) rfl rfl rfl ?_; refine qt_aload_n (r := 79) rfl ?_; refine qt_getI rfl rfl ?_; refine qt_iconst qc_2 ?_; refine qt_iadd ?_; refine qt_iload_n (x := x3) rfl ?_; refine qt_iast ?_; refine qt_aload_n (r := 79) rfl ?_; refine qt_dupR ?_; refine qt_getI rfl rfl ?_; refine qt_iconst qc_3 ?_; refine qt_iadd ?_; refine qt_putI rfl ?_; exact qt_z rfl rfl rfl rfl rfl) ⟨(q_id_of rfl), (q_id_of rfl), (q_id_of rfl), ho7, (q_id_of rfl), (q_id_of rfl), (q_id_of rfl), ho8, (q_id_of rfl), (q_id_of rfl), (q_id_of rfl), ho9, (q_id_of rfl), (q_id_of rfl)⟩ ?_
    exact s_retV (by decide +kernel) rfl h
  · replace h := h.2 hc
    exact s_retV (by decide +kernel) rfl h
theorem eX12_tellsStep {d : Nat} {x1 : Int32} {x2 : Int32} {x3 : Int32} {w : q_Sm} {Q : s_Po} {X : s_Xo} (h : vX12_tellsStep_0 d x1 x2 x3 w Q X) : s_Ev (d + 1) 0 mX12_tellsStep w [.ref (79), .int (x1), .int (x2), .int (x3)] Q X := s_of (by decide +kernel) rfl (Nat.le_of_ble_eq_true rfl) (xX12_tellsStep_0 h)
def vX12_readStep_0 (d : Nat)  (w : q_Sm) (Q : s_Po) (X : s_Xo) : Prop := s_EvI d 0 mX12_word w [.ref (79)] (fun v1 u2 => s_EvI d 0 mX12_of u2 [.retAddr (47)] (fun v3 u4 => ((¬ v1 = v3) → s_EvI d 0 mX12_of u4 [.retAddr (48)] (fun v5 u6 => ((¬ v1 = v5) → s_EvI d 0 mX12_of u6 [.retAddr (32)] (fun v7 u8 => ((¬ v1 = v7) → s_EvI d 0 mX12_of u8 [.retAddr (49)] (fun v9 u10 => ((¬ v1 = v9) → s_EvI d 0 mX12_of u10 [.retAddr (30)] (fun v11 u12 => ((¬ v1 = v11) → s_EvI d 0 mX12_of u12 [.retAddr (50)] (fun v13 u14 => ((¬ v1 = v13) → s_EvV d 0 mX12_wrong u14 [.ref (79), .int (1), .int (u14.1 79 4)] (fun u16 => s_EvV d 0 mX12_sign u16 [.ref (79), .int (59)] (fun u18 => Q none u18) X) X) ∧ (¬ (¬ v1 = v13) → s_EvV d 0 mX12_opensOne u14 [.ref (79), .int (5)] (fun u20 => s_EvI d 0 mX12_readNumber u20 [.ref (79), .int (0), .int (20)] (fun v21 u22 => s_EvV d 0 mX12_sign u22 [.ref (79), .int (91)] (fun u24 => s_EvV d 0 mX12_tellsStep u24 [.ref (79), .int (5), .int (v21), .int (0)] (fun u26 => s_Ex (d + 1) 0 mX12_readStep 227 [some (.ref (79)), none, none, some (.int (u24.1 79 44))] [] u26 Q X) X) X) X) X)) X) ∧ (¬ (¬ v1 = v11) → s_EvV d 0 mX12_pass u12 [.ref (79)] (fun u28 => s_EvV d 0 mX12_tellsStep u28 [.ref (79), .int (4), .int (0), .int (0)] (fun u30 => s_EvV d 0 mX12_sign u30 [.ref (79), .int (59)] (fun u32 => Q none u32) X) X) X)) X) ∧ (¬ (¬ v1 = v9) → s_EvV d 0 mX12_pass u10 [.ref (79)] (fun u34 => s_EvI d 0 mX12_readNumber u34 [.ref (79), .int (0), .int ((u34.1 79 30) - 1)] (fun v35 u36 => s_EvI d 0 mX12_readNumber u36 [.ref (79), .int (0), .int ((u36.1 79 29) - 1)] (fun v37 u38 => s_EvV d 0 mX12_tellsStep u38 [.ref (79), .int (3), .int (v35), .int (v37)] (fun u40 => s_EvV d 0 mX12_sign u40 [.ref (79), .int (59)] (fun u42 => Q none u42) X) X) X) X) X)) X) ∧ (¬ (¬ v1 = v7) → s_EvV d 0 mX12_pass u8 [.ref (79)] (fun u44 => s_EvI d 0 mX12_readColour u44 [.ref (79)] (fun v45 u46 => s_EvI d 0 mX12_readNumber u46 [.ref (79), .int (1), .int (99)] (fun v47 u48 => s_EvV d 0 mX12_tellsStep u48 [.ref (79), .int (2), .int (v45), .int (v47)] (fun u50 => s_EvV d 0 mX12_sign u50 [.ref (79), .int (59)] (fun u52 => Q none u52) X) X) X) X) X)) X) ∧ (¬ (¬ v1 = v5) → s_EvV d 0 mX12_pass u6 [.ref (79)] (fun u54 => s_EvI d 0 mX12_readNumber u54 [.ref (79), .int (0), .int ((u54.1 79 30) - 1)] (fun v55 u56 => s_EvV d 0 mX12_tellsStep u56 [.ref (79), .int (1), .int (v55), .int (0)] (fun u58 => s_EvV d 0 mX12_sign u58 [.ref (79), .int (59)] (fun u60 => Q none u60) X) X) X) X)) X) ∧ (¬ (¬ v1 = v3) → s_EvV d 0 mX12_pass u4 [.ref (79)] (fun u62 => s_EvI d 0 mX12_readNumber u62 [.ref (79), .int (0), .int ((u62.1 79 30) - 1)] (fun v63 u64 => s_EvI d 0 mX12_readNumber u64 [.ref (79), .int (1), .int (99)] (fun v65 u66 => s_EvV d 0 mX12_tellsStep u66 [.ref (79), .int (0), .int (v63), .int (v65)] (fun u68 => s_EvV d 0 mX12_sign u68 [.ref (79), .int (59)] (fun u70 => Q none u70) X) X) X) X) X)) X) X
def vX12_readStep_227 (d : Nat) (x3 : Int32) (w : q_Sm) (Q : s_Po) (X : s_Xo) : Prop := s_EvI d 0 mX12_fine w [.ref (79)] (fun v71 u72 => ((v71 = 0) → s_EvV d 0 mX12_sign u72 [.ref (79), .int (93)] (fun u74 => ∀ w_75 : q_Sm, w_75 = q_wI u74 79 7 ((u74.1 79 7) - 1) → s_EvI d 0 mX12_fine w_75 [.ref (79)] (fun v76 u77 => ((v76 = 0) → s_EvV d 0 mX12_sign u77 [.ref (79), .int (59)] (fun u79 => Q none u79) X) ∧ (¬ (v76 = 0) → (vp_in (x3 + 2) 150) ∧ ∀ w_80 : q_Sm, w_80 = q_wI u77 102 (Int32.toNatClampNeg (x3 + 2)) (u77.1 79 44) → s_EvV d 0 mX12_sign w_80 [.ref (79), .int (59)] (fun u82 => Q none u82) X)) X) X) ∧ (¬ (v71 = 0) → s_EvI d 0 mX12_here u72 [.ref (79)] (fun v84 u85 => ((v84 = 93) → s_EvV d 0 mX12_sign u85 [.ref (79), .int (93)] (fun u87 => ∀ w_88 : q_Sm, w_88 = q_wI u87 79 7 ((u87.1 79 7) - 1) → s_EvI d 0 mX12_fine w_88 [.ref (79)] (fun v89 u90 => ((v89 = 0) → s_EvV d 0 mX12_sign u90 [.ref (79), .int (59)] (fun u92 => Q none u92) X) ∧ (¬ (v89 = 0) → (vp_in (x3 + 2) 150) ∧ ∀ w_93 : q_Sm, w_93 = q_wI u90 102 (Int32.toNatClampNeg (x3 + 2)) (u90.1 79 44) → s_EvV d 0 mX12_sign w_93 [.ref (79), .int (59)] (fun u95 => Q none u95) X)) X) X) ∧ (¬ (v84 = 93) → s_EvV d 0 mX12_readStep u85 [.ref (79)] (fun u98 => s_Ex (d + 1) 0 mX12_readStep 227 [some (.ref (79)), none, none, some (.int (x3))] [] u98 Q X) X)) X)) X
theorem xX12_readStep_0 {d : Nat}  {w : q_Sm} {Q : s_Po} {X : s_Xo} (h : vX12_readStep_0 d  w Q X) : s_Ex (d + 1) 0 mX12_readStep 0 [some (.ref (79)), none, none, none] [] w Q X := by
  unfold vX12_readStep_0 at h
  refine s_blk [(.aload_n 0, 1, 0, 0)] 1 [some (.ref (79)), none, none, none] [.ref (79)] w [] (by decide +kernel) (by refine qt_aload_n (r := 79) rfl ?_; exact qt_z rfl rfl rfl rfl rfl) trivial ?_
  refine s_callV (a := 0) (a' := 0) (As := []) (id := 79) (st := []) kX12_word l_12_231 (by decide +kernel) (q_id_of rfl) rfl (Nat.le_of_ble_eq_true rfl) (s_mono h (s_I_of (fun v1 u2 h => ?_)) (fun _ _ h9 => h9))
  show s_Ex (d + 1) 0 mX12_readStep 4 [some (.ref (79)), none, none, none] [.int (v1)] u2 Q X
  refine s_blk [(.istore_n 1, 1, 0, 0), (.iload_n 1, 1, 0, 0), (.ldc_w 354, 3, 1, 47)] 9 [some (.ref (79)), some (.int (v1)), none, none] [.retAddr (47), .int (v1)] u2 [] (by decide +kernel) (by refine qt_istore_n (L' := [some (.ref (79)), some (.int (v1)), none, none]) rfl ?_; refine qt_iload_n (x := v1) rfl ?_; refine qt_ldcSW ?_; exact qt_z rfl rfl rfl rfl rfl) trivial ?_
  refine s_callS (a := 0) (a' := 0) (As := [.retAddr (47)]) (st := [.int (v1)]) kX12_of l_12_236 (by decide +kernel) rfl (Nat.le_of_ble_eq_true rfl) (s_mono h (s_I_of (fun v3 u4 h => ?_)) (fun _ _ h9 => h9))
  show s_Ex (d + 1) 0 mX12_readStep 12 [some (.ref (79)), some (.int (v1)), none, none] [.int (v3), .int (v1)] u4 Q X
  refine s_icmp (cd := .ne) (off := 35) 47 (by decide +kernel) (by decide) (fun hc => ?_) (fun hc => ?_)
  · replace h := h.1 hc
    refine s_blk [(.iload_n 1, 1, 0, 0), (.ldc_w 360, 3, 1, 48)] 51 [some (.ref (79)), some (.int (v1)), none, none] [.retAddr (48), .int (v1)] u4 [] (by decide +kernel) (by refine qt_iload_n (x := v1) rfl ?_; refine qt_ldcSW ?_; exact qt_z rfl rfl rfl rfl rfl) trivial ?_
    refine s_callS (a := 0) (a' := 0) (As := [.retAddr (48)]) (st := [.int (v1)]) kX12_of l_12_236 (by decide +kernel) rfl (Nat.le_of_ble_eq_true rfl) (s_mono h (s_I_of (fun v5 u6 h => ?_)) (fun _ _ h9 => h9))
    show s_Ex (d + 1) 0 mX12_readStep 54 [some (.ref (79)), some (.int (v1)), none, none] [.int (v5), .int (v1)] u6 Q X
    refine s_icmp (cd := .ne) (off := 27) 81 (by decide +kernel) (by decide) (fun hc => ?_) (fun hc => ?_)
    · replace h := h.1 hc
      refine s_blk [(.iload_n 1, 1, 0, 0), (.ldc_w 262, 3, 1, 32)] 85 [some (.ref (79)), some (.int (v1)), none, none] [.retAddr (32), .int (v1)] u6 [] (by decide +kernel) (by refine qt_iload_n (x := v1) rfl ?_; refine qt_ldcSW ?_; exact qt_z rfl rfl rfl rfl rfl) trivial ?_
      refine s_callS (a := 0) (a' := 0) (As := [.retAddr (32)]) (st := [.int (v1)]) kX12_of l_12_236 (by decide +kernel) rfl (Nat.le_of_ble_eq_true rfl) (s_mono h (s_I_of (fun v7 u8 h => ?_)) (fun _ _ h9 => h9))
      show s_Ex (d + 1) 0 mX12_readStep 88 [some (.ref (79)), some (.int (v1)), none, none] [.int (v7), .int (v1)] u8 Q X
      refine s_icmp (cd := .ne) (off := 28) 116 (by decide +kernel) (by decide) (fun hc => ?_) (fun hc => ?_)
      · replace h := h.1 hc
        refine s_blk [(.iload_n 1, 1, 0, 0), (.ldc_w 362, 3, 1, 49)] 120 [some (.ref (79)), some (.int (v1)), none, none] [.retAddr (49), .int (v1)] u8 [] (by decide +kernel) (by refine qt_iload_n (x := v1) rfl ?_; refine qt_ldcSW ?_; exact qt_z rfl rfl rfl rfl rfl) trivial ?_
        refine s_callS (a := 0) (a' := 0) (As := [.retAddr (49)]) (st := [.int (v1)]) kX12_of l_12_236 (by decide +kernel) rfl (Nat.le_of_ble_eq_true rfl) (s_mono h (s_I_of (fun v9 u10 h => ?_)) (fun _ _ h9 => h9))
        show s_Ex (d + 1) 0 mX12_readStep 123 [some (.ref (79)), some (.int (v1)), none, none] [.int (v9), .int (v1)] u10 Q X
        refine s_icmp (cd := .ne) (off := 39) 162 (by decide +kernel) (by decide) (fun hc => ?_) (fun hc => ?_)
        · replace h := h.1 hc
          refine s_blk [(.iload_n 1, 1, 0, 0), (.ldc_w 260, 3, 1, 30)] 166 [some (.ref (79)), some (.int (v1)), none, none] [.retAddr (30), .int (v1)] u10 [] (by decide +kernel) (by refine qt_iload_n (x := v1) rfl ?_; refine qt_ldcSW ?_; exact qt_z rfl rfl rfl rfl rfl) trivial ?_
          refine s_callS (a := 0) (a' := 0) (As := [.retAddr (30)]) (st := [.int (v1)]) kX12_of l_12_236 (by decide +kernel) rfl (Nat.le_of_ble_eq_true rfl) (s_mono h (s_I_of (fun v11 u12 h => ?_)) (fun _ _ h9 => h9))
          show s_Ex (d + 1) 0 mX12_readStep 169 [some (.ref (79)), some (.int (v1)), none, none] [.int (v11), .int (v1)] u12 Q X
          refine s_icmp (cd := .ne) (off := 17) 186 (by decide +kernel) (by decide) (fun hc => ?_) (fun hc => ?_)
          · replace h := h.1 hc
            refine s_blk [(.iload_n 1, 1, 0, 0), (.ldc_w 364, 3, 1, 50)] 190 [some (.ref (79)), some (.int (v1)), none, none] [.retAddr (50), .int (v1)] u12 [] (by decide +kernel) (by refine qt_iload_n (x := v1) rfl ?_; refine qt_ldcSW ?_; exact qt_z rfl rfl rfl rfl rfl) trivial ?_
            refine s_callS (a := 0) (a' := 0) (As := [.retAddr (50)]) (st := [.int (v1)]) kX12_of l_12_236 (by decide +kernel) rfl (Nat.le_of_ble_eq_true rfl) (s_mono h (s_I_of (fun v13 u14 h => ?_)) (fun _ _ h9 => h9))
            show s_Ex (d + 1) 0 mX12_readStep 193 [some (.ref (79)), some (.int (v1)), none, none] [.int (v13), .int (v1)] u14 Q X
            refine s_icmp (cd := .ne) (off := 95) 288 (by decide +kernel) (by decide) (fun hc => ?_) (fun hc => ?_)
            · replace h := h.1 hc
              refine s_blk [(.aload_n 0, 1, 0, 0), (.iconst 1, 1, 0, 0), (.aload_n 0, 1, 0, 0), (.getfield 141, 3, 12, 4)] 294 [some (.ref (79)), some (.int (v1)), none, none] [.int (u14.1 79 4), .int (1), .ref (79)] u14 [q_id 116 12 79] (by decide +kernel) (by refine qt_aload_n (r := 79) rfl ?_; refine qt_iconst qc_1 ?_; refine qt_aload_n (r := 79) rfl ?_; refine qt_getI rfl rfl ?_; exact qt_z rfl rfl rfl rfl rfl) (q_id_of rfl) ?_
              refine s_callV (a := 0) (a' := 0) (As := [.int (1), .int (u14.1 79 4)]) (id := 79) (st := []) kX12_wrong l_12_171 (by decide +kernel) (q_id_of rfl) rfl (Nat.le_of_ble_eq_true rfl) (s_mono h (s_V_of (fun u16 h => ?_)) (fun _ _ h9 => h9))
              show s_Ex (d + 1) 0 mX12_readStep 297 [some (.ref (79)), some (.int (v1)), none, none] [] u16 Q X
              refine s_blk [(.aload_n 0, 1, 0, 0), (.bipush 59, 2, 0, 0)] 300 [some (.ref (79)), some (.int (v1)), none, none] [.int (59), .ref (79)] u16 [] (by decide +kernel) (by refine qt_aload_n (r := 79) rfl ?_; refine qt_bipush qb_59 ?_; exact qt_z rfl rfl rfl rfl rfl) trivial ?_
              refine s_callV (a := 0) (a' := 0) (As := [.int (59)]) (id := 79) (st := []) kX12_sign l_12_297 (by decide +kernel) (q_id_of rfl) rfl (Nat.le_of_ble_eq_true rfl) (s_mono h (s_V_of (fun u18 h => ?_)) (fun _ _ h9 => h9))
              show s_Ex (d + 1) 0 mX12_readStep 303 [some (.ref (79)), some (.int (v1)), none, none] [] u18 Q X
              exact s_retV (by decide +kernel) rfl h
            · replace h := h.2 hc
              refine s_blk [(.aload_n 0, 1, 0, 0), (.iconst 5, 1, 0, 0)] 198 [some (.ref (79)), some (.int (v1)), none, none] [.int (5), .ref (79)] u14 [] (by decide +kernel) (by refine qt_aload_n (r := 79) rfl ?_; refine qt_iconst qc_5 ?_; exact qt_z rfl rfl rfl rfl rfl) trivial ?_
              refine s_callV (a := 0) (a' := 0) (As := [.int (5)]) (id := 79) (st := []) kX12_opensOne l_12_316 (by decide +kernel) (q_id_of rfl) rfl (Nat.le_of_ble_eq_true rfl) (s_mono h (s_V_of (fun u20 h => ?_)) (fun _ _ h9 => h9))
              show s_Ex (d + 1) 0 mX12_readStep 201 [some (.ref (79)), some (.int (v1)), none, none] [] u20 Q X
              refine s_blk [(.aload_n 0, 1, 0, 0), (.iconst 0, 1, 0, 0), (.bipush 20, 2, 0, 0)] 205 [some (.ref (79)), some (.int (v1)), none, none] [.int (20), .int (0), .ref (79)] u20 [] (by decide +kernel) (by refine qt_aload_n (r := 79) rfl ?_; refine qt_iconst qc_0 ?_; refine qt_bipush qb_20 ?_; exact qt_z rfl rfl rfl rfl rfl) trivial ?_
              refine s_callV (a := 0) (a' := 0) (As := [.int (0), .int (20)]) (id := 79) (st := []) kX12_readNumber l_12_254 (by decide +kernel) (q_id_of rfl) rfl (Nat.le_of_ble_eq_true rfl) (s_mono h (s_I_of (fun v21 u22 h => ?_)) (fun _ _ h9 => h9))
              show s_Ex (d + 1) 0 mX12_readStep 208 [some (.ref (79)), some (.int (v1)), none, none] [.int (v21)] u22 Q X
              refine s_blk [(.istore_n 2, 1, 0, 0), (.aload_n 0, 1, 0, 0), (.bipush 91, 2, 0, 0)] 212 [some (.ref (79)), some (.int (v1)), some (.int (v21)), none] [.int (91), .ref (79)] u22 [] (by decide +kernel) (by refine qt_istore_n (L' := [some (.ref (79)), some (.int (v1)), some (.int (v21)), none]) rfl ?_; refine qt_aload_n (r := 79) rfl ?_; refine qt_bipush qb_91 ?_; exact qt_z rfl rfl rfl rfl rfl) trivial ?_
              refine s_callV (a := 0) (a' := 0) (As := [.int (91)]) (id := 79) (st := []) kX12_sign l_12_297 (by decide +kernel) (q_id_of rfl) rfl (Nat.le_of_ble_eq_true rfl) (s_mono h (s_V_of (fun u24 h => ?_)) (fun _ _ h9 => h9))
              show s_Ex (d + 1) 0 mX12_readStep 215 [some (.ref (79)), some (.int (v1)), some (.int (v21)), none] [] u24 Q X
              refine s_blk [(.aload_n 0, 1, 0, 0), (.getfield 351, 3, 12, 44), (.istore_n 3, 1, 0, 0), (.aload_n 0, 1, 0, 0), (.iconst 5, 1, 0, 0), (.iload_n 2, 1, 0, 0), (.iconst 0, 1, 0, 0)] 224 [some (.ref (79)), some (.int (v1)), some (.int (v21)), some (.int (u24.1 79 44))] [.int (0), .int (v21), .int (5), .ref (79)] u24 [q_id 116 12 79] (by decide +kernel) (by refine qt_aload_n (r := 79) rfl ?_; refine qt_getI rfl rfl ?_; refine qt_istore_n (L' := [some (.ref (79)), some (.int (v1)), some (.int (v21)), some (.int (u24.1 79 44))]) rfl ?_; refine qt_aload_n (r := 79) rfl ?_; refine qt_iconst qc_5 ?_; refine qt_iload_n (x := v21) rfl ?_; refine qt_iconst qc_0 ?_; exact qt_z rfl rfl rfl rfl rfl) (q_id_of rfl) ?_
              refine s_callV (a := 0) (a' := 0) (As := [.int (5), .int (v21), .int (0)]) (id := 79) (st := []) kX12_tellsStep l_12_356 (by decide +kernel) (q_id_of rfl) rfl (Nat.le_of_ble_eq_true rfl) (s_mono h (s_V_of (fun u26 h => ?_)) (fun _ _ h9 => h9))
              show s_Ex (d + 1) 0 mX12_readStep 227 [some (.ref (79)), some (.int (v1)), some (.int (v21)), some (.int (u24.1 79 44))] [] u26 Q X
              refine s_blk [(.nop, 0, 1, 0), (.nop, 0, 2, 0)] 227 [some (.ref (79)), none, none, some (.int (u24.1 79 44))] [] u26 [] (by decide +kernel) (by refine qt_nop (L' := [some (.ref (79)), none, some (.int (v21)), some (.int (u24.1 79 44))]) rfl ?_; refine qt_nop (L' := [some (.ref (79)), none, none, some (.int (u24.1 79 44))]) rfl ?_; exact qt_z rfl rfl rfl rfl rfl) trivial ?_
              exact h
          · replace h := h.2 hc
            refine s_blk [(.aload_n 0, 1, 0, 0)] 173 [some (.ref (79)), some (.int (v1)), none, none] [.ref (79)] u12 [] (by decide +kernel) (by refine qt_aload_n (r := 79) rfl ?_; exact qt_z rfl rfl rfl rfl rfl) trivial ?_
            refine s_callV (a := 0) (a' := 0) (As := []) (id := 79) (st := []) kX12_pass l_12_249 (by decide +kernel) (q_id_of rfl) rfl (Nat.le_of_ble_eq_true rfl) (s_mono h (s_V_of (fun u28 h => ?_)) (fun _ _ h9 => h9))
            show s_Ex (d + 1) 0 mX12_readStep 176 [some (.ref (79)), some (.int (v1)), none, none] [] u28 Q X
            refine s_blk [(.aload_n 0, 1, 0, 0), (.iconst 4, 1, 0, 0), (.iconst 0, 1, 0, 0), (.iconst 0, 1, 0, 0)] 180 [some (.ref (79)), some (.int (v1)), none, none] [.int (0), .int (0), .int (4), .ref (79)] u28 [] (by decide +kernel) (by refine qt_aload_n (r := 79) rfl ?_; refine qt_iconst qc_4 ?_; refine qt_iconst qc_0 ?_; refine qt_iconst qc_0 ?_; exact qt_z rfl rfl rfl rfl rfl) trivial ?_
            refine s_callV (a := 0) (a' := 0) (As := [.int (4), .int (0), .int (0)]) (id := 79) (st := []) kX12_tellsStep l_12_356 (by decide +kernel) (q_id_of rfl) rfl (Nat.le_of_ble_eq_true rfl) (s_mono h (s_V_of (fun u30 h => ?_)) (fun _ _ h9 => h9))
            show s_Ex (d + 1) 0 mX12_readStep 183 [some (.ref (79)), some (.int (v1)), none, none] [] u30 Q X
            refine s_blk [(.goto 114, 3, 297, 0), (.aload_n 0, 1, 0, 0), (.bipush 59, 2, 0, 0)] 300 [some (.ref (79)), some (.int (v1)), none, none] [.int (59), .ref (79)] u30 [] (by decide +kernel) (by refine qt_goto ?_; refine qt_aload_n (r := 79) rfl ?_; refine qt_bipush qb_59 ?_; exact qt_z rfl rfl rfl rfl rfl) trivial ?_
            refine s_callV (a := 0) (a' := 0) (As := [.int (59)]) (id := 79) (st := []) kX12_sign l_12_297 (by decide +kernel) (q_id_of rfl) rfl (Nat.le_of_ble_eq_true rfl) (s_mono h (s_V_of (fun u32 h => ?_)) (fun _ _ h9 => h9))
            show s_Ex (d + 1) 0 mX12_readStep 303 [some (.ref (79)), some (.int (v1)), none, none] [] u32 Q X
            exact s_retV (by decide +kernel) rfl h
        · replace h := h.2 hc
          refine s_blk [(.aload_n 0, 1, 0, 0)] 127 [some (.ref (79)), some (.int (v1)), none, none] [.ref (79)] u10 [] (by decide +kernel) (by refine qt_aload_n (r := 79) rfl ?_; exact qt_z rfl rfl rfl rfl rfl) trivial ?_
          refine s_callV (a := 0) (a' := 0) (As := []) (id := 79) (st := []) kX12_pass l_12_249 (by decide +kernel) (q_id_of rfl) rfl (Nat.le_of_ble_eq_true rfl) (s_mono h (s_V_of (fun u34 h => ?_)) (fun _ _ h9 => h9))
          show s_Ex (d + 1) 0 mX12_readStep 130 [some (.ref (79)), some (.int (v1)), none, none] [] u34 Q X
          refine s_blk [(.aload_n 0, 1, 0, 0), (.iconst 0, 1, 0, 0), (.aload_n 0, 1, 0, 0), (.getfield 196, 3, 12, 30), (.iconst 1, 1, 0, 0), (.isub, 1, 0, 0)] 138 [some (.ref (79)), some (.int (v1)), none, none] [.int ((u34.1 79 30) - 1), .int (0), .ref (79)] u34 [q_id 116 12 79] (by decide +kernel) (by refine qt_aload_n (r := 79) rfl ?_; refine qt_iconst qc_0 ?_; refine qt_aload_n (r := 79) rfl ?_; refine qt_getI rfl rfl ?_; refine qt_iconst qc_1 ?_; refine qt_isub ?_; exact qt_z rfl rfl rfl rfl rfl) (q_id_of rfl) ?_
          refine s_callV (a := 0) (a' := 0) (As := [.int (0), .int ((u34.1 79 30) - 1)]) (id := 79) (st := []) kX12_readNumber l_12_254 (by decide +kernel) (q_id_of rfl) rfl (Nat.le_of_ble_eq_true rfl) (s_mono h (s_I_of (fun v35 u36 h => ?_)) (fun _ _ h9 => h9))
          show s_Ex (d + 1) 0 mX12_readStep 141 [some (.ref (79)), some (.int (v1)), none, none] [.int (v35)] u36 Q X
          refine s_blk [(.istore_n 2, 1, 0, 0), (.aload_n 0, 1, 0, 0), (.iconst 3, 1, 0, 0), (.iload_n 2, 1, 0, 0), (.aload_n 0, 1, 0, 0), (.iconst 0, 1, 0, 0), (.aload_n 0, 1, 0, 0), (.getfield 193, 3, 12, 29), (.iconst 1, 1, 0, 0), (.isub, 1, 0, 0)] 153 [some (.ref (79)), some (.int (v1)), some (.int (v35)), none] [.int ((u36.1 79 29) - 1), .int (0), .ref (79), .int (v35), .int (3), .ref (79)] u36 [q_id 116 12 79] (by decide +kernel) (by refine qt_istore_n (L' := [some (.ref (79)), some (.int (v1)), some (.int (v35)), none]) rfl ?_; refine qt_aload_n (r := 79) rfl ?_; refine qt_iconst qc_3 ?_; refine qt_iload_n (x := v35) rfl ?_; refine qt_aload_n (r := 79) rfl ?_; refine qt_iconst qc_0 ?_; refine qt_aload_n (r := 79) rfl ?_; refine qt_getI rfl rfl ?_; refine qt_iconst qc_1 ?_; refine qt_isub ?_; exact qt_z rfl rfl rfl rfl rfl) (q_id_of rfl) ?_
          refine s_callV (a := 0) (a' := 0) (As := [.int (0), .int ((u36.1 79 29) - 1)]) (id := 79) (st := [.int (v35), .int (3), .ref (79)]) kX12_readNumber l_12_254 (by decide +kernel) (q_id_of rfl) rfl (Nat.le_of_ble_eq_true rfl) (s_mono h (s_I_of (fun v37 u38 h => ?_)) (fun _ _ h9 => h9))
          show s_Ex (d + 1) 0 mX12_readStep 156 [some (.ref (79)), some (.int (v1)), some (.int (v35)), none] [.int (v37), .int (v35), .int (3), .ref (79)] u38 Q X
          refine s_callV (a := 0) (a' := 0) (As := [.int (3), .int (v35), .int (v37)]) (id := 79) (st := []) kX12_tellsStep l_12_356 (by decide +kernel) (q_id_of rfl) rfl (Nat.le_of_ble_eq_true rfl) (s_mono h (s_V_of (fun u40 h => ?_)) (fun _ _ h9 => h9))
          show s_Ex (d + 1) 0 mX12_readStep 159 [some (.ref (79)), some (.int (v1)), some (.int (v35)), none] [] u40 Q X
          refine s_blk [(.goto 138, 3, 297, 0), (.aload_n 0, 1, 0, 0), (.bipush 59, 2, 0, 0)] 300 [some (.ref (79)), some (.int (v1)), some (.int (v35)), none] [.int (59), .ref (79)] u40 [] (by decide +kernel) (by refine qt_goto ?_; refine qt_aload_n (r := 79) rfl ?_; refine qt_bipush qb_59 ?_; exact qt_z rfl rfl rfl rfl rfl) trivial ?_
          refine s_callV (a := 0) (a' := 0) (As := [.int (59)]) (id := 79) (st := []) kX12_sign l_12_297 (by decide +kernel) (q_id_of rfl) rfl (Nat.le_of_ble_eq_true rfl) (s_mono h (s_V_of (fun u42 h => ?_)) (fun _ _ h9 => h9))
          show s_Ex (d + 1) 0 mX12_readStep 303 [some (.ref (79)), some (.int (v1)), some (.int (v35)), none] [] u42 Q X
          exact s_retV (by decide +kernel) rfl h
      · replace h := h.2 hc
        refine s_blk [(.aload_n 0, 1, 0, 0)] 92 [some (.ref (79)), some (.int (v1)), none, none] [.ref (79)] u8 [] (by decide +kernel) (by refine qt_aload_n (r := 79) rfl ?_; exact qt_z rfl rfl rfl rfl rfl) trivial ?_
        refine s_callV (a := 0) (a' := 0) (As := []) (id := 79) (st := []) kX12_pass l_12_249 (by decide +kernel) (q_id_of rfl) rfl (Nat.le_of_ble_eq_true rfl) (s_mono h (s_V_of (fun u44 h => ?_)) (fun _ _ h9 => h9))
        show s_Ex (d + 1) 0 mX12_readStep 95 [some (.ref (79)), some (.int (v1)), none, none] [] u44 Q X
        refine s_blk [(.aload_n 0, 1, 0, 0)] 96 [some (.ref (79)), some (.int (v1)), none, none] [.ref (79)] u44 [] (by decide +kernel) (by refine qt_aload_n (r := 79) rfl ?_; exact qt_z rfl rfl rfl rfl rfl) trivial ?_
        refine s_callV (a := 0) (a' := 0) (As := []) (id := 79) (st := []) kX12_readColour l_12_257 (by decide +kernel) (q_id_of rfl) rfl (Nat.le_of_ble_eq_true rfl) (s_mono h (s_I_of (fun v45 u46 h => ?_)) (fun _ _ h9 => h9))
        show s_Ex (d + 1) 0 mX12_readStep 99 [some (.ref (79)), some (.int (v1)), none, none] [.int (v45)] u46 Q X
        refine s_blk [(.istore_n 2, 1, 0, 0), (.aload_n 0, 1, 0, 0), (.iconst 2, 1, 0, 0), (.iload_n 2, 1, 0, 0), (.aload_n 0, 1, 0, 0), (.iconst 1, 1, 0, 0), (.bipush 99, 2, 0, 0)] 107 [some (.ref (79)), some (.int (v1)), some (.int (v45)), none] [.int (99), .int (1), .ref (79), .int (v45), .int (2), .ref (79)] u46 [] (by decide +kernel) (by refine qt_istore_n (L' := [some (.ref (79)), some (.int (v1)), some (.int (v45)), none]) rfl ?_; refine qt_aload_n (r := 79) rfl ?_; refine qt_iconst qc_2 ?_; refine qt_iload_n (x := v45) rfl ?_; refine qt_aload_n (r := 79) rfl ?_; refine qt_iconst qc_1 ?_; refine qt_bipush qb_99 ?_; exact qt_z rfl rfl rfl rfl rfl) trivial ?_
        refine s_callV (a := 0) (a' := 0) (As := [.int (1), .int (99)]) (id := 79) (st := [.int (v45), .int (2), .ref (79)]) kX12_readNumber l_12_254 (by decide +kernel) (q_id_of rfl) rfl (Nat.le_of_ble_eq_true rfl) (s_mono h (s_I_of (fun v47 u48 h => ?_)) (fun _ _ h9 => h9))
        show s_Ex (d + 1) 0 mX12_readStep 110 [some (.ref (79)), some (.int (v1)), some (.int (v45)), none] [.int (v47), .int (v45), .int (2), .ref (79)] u48 Q X
        refine s_callV (a := 0) (a' := 0) (As := [.int (2), .int (v45), .int (v47)]) (id := 79) (st := []) kX12_tellsStep l_12_356 (by decide +kernel) (q_id_of rfl) rfl (Nat.le_of_ble_eq_true rfl) (s_mono h (s_V_of (fun u50 h => ?_)) (fun _ _ h9 => h9))
        show s_Ex (d + 1) 0 mX12_readStep 113 [some (.ref (79)), some (.int (v1)), some (.int (v45)), none] [] u50 Q X
        refine s_blk [(.goto 184, 3, 297, 0), (.aload_n 0, 1, 0, 0), (.bipush 59, 2, 0, 0)] 300 [some (.ref (79)), some (.int (v1)), some (.int (v45)), none] [.int (59), .ref (79)] u50 [] (by decide +kernel) (by refine qt_goto ?_; refine qt_aload_n (r := 79) rfl ?_; refine qt_bipush qb_59 ?_; exact qt_z rfl rfl rfl rfl rfl) trivial ?_
        refine s_callV (a := 0) (a' := 0) (As := [.int (59)]) (id := 79) (st := []) kX12_sign l_12_297 (by decide +kernel) (q_id_of rfl) rfl (Nat.le_of_ble_eq_true rfl) (s_mono h (s_V_of (fun u52 h => ?_)) (fun _ _ h9 => h9))
        show s_Ex (d + 1) 0 mX12_readStep 303 [some (.ref (79)), some (.int (v1)), some (.int (v45)), none] [] u52 Q X
        exact s_retV (by decide +kernel) rfl h
    · replace h := h.2 hc
      refine s_blk [(.aload_n 0, 1, 0, 0)] 58 [some (.ref (79)), some (.int (v1)), none, none] [.ref (79)] u6 [] (by decide +kernel) (by refine qt_aload_n (r := 79) rfl ?_; exact qt_z rfl rfl rfl rfl rfl) trivial ?_
      refine s_callV (a := 0) (a' := 0) (As := []) (id := 79) (st := []) kX12_pass l_12_249 (by decide +kernel) (q_id_of rfl) rfl (Nat.le_of_ble_eq_true rfl) (s_mono h (s_V_of (fun u54 h => ?_)) (fun _ _ h9 => h9))
      show s_Ex (d + 1) 0 mX12_readStep 61 [some (.ref (79)), some (.int (v1)), none, none] [] u54 Q X
      refine s_blk [(.aload_n 0, 1, 0, 0), (.iconst 1, 1, 0, 0), (.aload_n 0, 1, 0, 0), (.iconst 0, 1, 0, 0), (.aload_n 0, 1, 0, 0), (.getfield 196, 3, 12, 30), (.iconst 1, 1, 0, 0), (.isub, 1, 0, 0)] 71 [some (.ref (79)), some (.int (v1)), none, none] [.int ((u54.1 79 30) - 1), .int (0), .ref (79), .int (1), .ref (79)] u54 [q_id 116 12 79] (by decide +kernel) (by refine qt_aload_n (r := 79) rfl ?_; refine qt_iconst qc_1 ?_; refine qt_aload_n (r := 79) rfl ?_; refine qt_iconst qc_0 ?_; refine qt_aload_n (r := 79) rfl ?_; refine qt_getI rfl rfl ?_; refine qt_iconst qc_1 ?_; refine qt_isub ?_; exact qt_z rfl rfl rfl rfl rfl) (q_id_of rfl) ?_
      refine s_callV (a := 0) (a' := 0) (As := [.int (0), .int ((u54.1 79 30) - 1)]) (id := 79) (st := [.int (1), .ref (79)]) kX12_readNumber l_12_254 (by decide +kernel) (q_id_of rfl) rfl (Nat.le_of_ble_eq_true rfl) (s_mono h (s_I_of (fun v55 u56 h => ?_)) (fun _ _ h9 => h9))
      show s_Ex (d + 1) 0 mX12_readStep 74 [some (.ref (79)), some (.int (v1)), none, none] [.int (v55), .int (1), .ref (79)] u56 Q X
      refine s_blk [(.iconst 0, 1, 0, 0)] 75 [some (.ref (79)), some (.int (v1)), none, none] [.int (0), .int (v55), .int (1), .ref (79)] u56 [] (by decide +kernel) (by refine qt_iconst qc_0 ?_; exact qt_z rfl rfl rfl rfl rfl) trivial ?_
      refine s_callV (a := 0) (a' := 0) (As := [.int (1), .int (v55), .int (0)]) (id := 79) (st := []) kX12_tellsStep l_12_356 (by decide +kernel) (q_id_of rfl) rfl (Nat.le_of_ble_eq_true rfl) (s_mono h (s_V_of (fun u58 h => ?_)) (fun _ _ h9 => h9))
      show s_Ex (d + 1) 0 mX12_readStep 78 [some (.ref (79)), some (.int (v1)), none, none] [] u58 Q X
      refine s_blk [(.goto 219, 3, 297, 0), (.aload_n 0, 1, 0, 0), (.bipush 59, 2, 0, 0)] 300 [some (.ref (79)), some (.int (v1)), none, none] [.int (59), .ref (79)] u58 [] (by decide +kernel) (by refine qt_goto ?_; refine qt_aload_n (r := 79) rfl ?_; refine qt_bipush qb_59 ?_; exact qt_z rfl rfl rfl rfl rfl) trivial ?_
      refine s_callV (a := 0) (a' := 0) (As := [.int (59)]) (id := 79) (st := []) kX12_sign l_12_297 (by decide +kernel) (q_id_of rfl) rfl (Nat.le_of_ble_eq_true rfl) (s_mono h (s_V_of (fun u60 h => ?_)) (fun _ _ h9 => h9))
      show s_Ex (d + 1) 0 mX12_readStep 303 [some (.ref (79)), some (.int (v1)), none, none] [] u60 Q X
      exact s_retV (by decide +kernel) rfl h
  · replace h := h.2 hc
    refine s_blk [(.aload_n 0, 1, 0, 0)] 16 [some (.ref (79)), some (.int (v1)), none, none] [.ref (79)] u4 [] (by decide +kernel) (by refine qt_aload_n (r := 79) rfl ?_; exact qt_z rfl rfl rfl rfl rfl) trivial ?_
    refine s_callV (a := 0) (a' := 0) (As := []) (id := 79) (st := []) kX12_pass l_12_249 (by decide +kernel) (q_id_of rfl) rfl (Nat.le_of_ble_eq_true rfl) (s_mono h (s_V_of (fun u62 h => ?_)) (fun _ _ h9 => h9))
    show s_Ex (d + 1) 0 mX12_readStep 19 [some (.ref (79)), some (.int (v1)), none, none] [] u62 Q X
    refine s_blk [(.aload_n 0, 1, 0, 0), (.iconst 0, 1, 0, 0), (.aload_n 0, 1, 0, 0), (.getfield 196, 3, 12, 30), (.iconst 1, 1, 0, 0), (.isub, 1, 0, 0)] 27 [some (.ref (79)), some (.int (v1)), none, none] [.int ((u62.1 79 30) - 1), .int (0), .ref (79)] u62 [q_id 116 12 79] (by decide +kernel) (by refine qt_aload_n (r := 79) rfl ?_; refine qt_iconst qc_0 ?_; refine qt_aload_n (r := 79) rfl ?_; refine qt_getI rfl rfl ?_; refine qt_iconst qc_1 ?_; refine qt_isub ?_; exact qt_z rfl rfl rfl rfl rfl) (q_id_of rfl) ?_
    refine s_callV (a := 0) (a' := 0) (As := [.int (0), .int ((u62.1 79 30) - 1)]) (id := 79) (st := []) kX12_readNumber l_12_254 (by decide +kernel) (q_id_of rfl) rfl (Nat.le_of_ble_eq_true rfl) (s_mono h (s_I_of (fun v63 u64 h => ?_)) (fun _ _ h9 => h9))
    show s_Ex (d + 1) 0 mX12_readStep 30 [some (.ref (79)), some (.int (v1)), none, none] [.int (v63)] u64 Q X
    refine s_blk [(.istore_n 2, 1, 0, 0), (.aload_n 0, 1, 0, 0), (.iconst 0, 1, 0, 0), (.iload_n 2, 1, 0, 0), (.aload_n 0, 1, 0, 0), (.iconst 1, 1, 0, 0), (.bipush 99, 2, 0, 0)] 38 [some (.ref (79)), some (.int (v1)), some (.int (v63)), none] [.int (99), .int (1), .ref (79), .int (v63), .int (0), .ref (79)] u64 [] (by decide +kernel) (by refine qt_istore_n (L' := [some (.ref (79)), some (.int (v1)), some (.int (v63)), none]) rfl ?_; refine qt_aload_n (r := 79) rfl ?_; refine qt_iconst qc_0 ?_; refine qt_iload_n (x := v63) rfl ?_; refine qt_aload_n (r := 79) rfl ?_; refine qt_iconst qc_1 ?_; refine qt_bipush qb_99 ?_; exact qt_z rfl rfl rfl rfl rfl) trivial ?_
    refine s_callV (a := 0) (a' := 0) (As := [.int (1), .int (99)]) (id := 79) (st := [.int (v63), .int (0), .ref (79)]) kX12_readNumber l_12_254 (by decide +kernel) (q_id_of rfl) rfl (Nat.le_of_ble_eq_true rfl) (s_mono h (s_I_of (fun v65 u66 h => ?_)) (fun _ _ h9 => h9))
    show s_Ex (d + 1) 0 mX12_readStep 41 [some (.ref (79)), some (.int (v1)), some (.int (v63)), none] [.int (v65), .int (v63), .int (0), .ref (79)] u66 Q X
    refine s_callV (a := 0) (a' := 0) (As := [.int (0), .int (v63), .int (v65)]) (id := 79) (st := []) kX12_tellsStep l_12_356 (by decide +kernel) (q_id_of rfl) rfl (Nat.le_of_ble_eq_true rfl) (s_mono h (s_V_of (fun u68 h => ?_)) (fun _ _ h9 => h9))
    show s_Ex (d + 1) 0 mX12_readStep 44 [some (.ref (79)), some (.int (v1)), some (.int (v63)), none] [] u68 Q X
    refine s_blk [(.goto 253, 3, 297, 0), (.aload_n 0, 1, 0, 0), (.bipush 59, 2, 0, 0)] 300 [some (.ref (79)), some (.int (v1)), some (.int (v63)), none] [.int (59), .ref (79)] u68 [] (by decide +kernel) (by refine qt_goto ?_; refine qt_aload_n (r := 79) rfl ?_; refine qt_bipush qb_59 ?_; exact qt_z rfl rfl rfl rfl rfl) trivial ?_
    refine s_callV (a := 0) (a' := 0) (As := [.int (59)]) (id := 79) (st := []) kX12_sign l_12_297 (by decide +kernel) (q_id_of rfl) rfl (Nat.le_of_ble_eq_true rfl) (s_mono h (s_V_of (fun u70 h => ?_)) (fun _ _ h9 => h9))
    show s_Ex (d + 1) 0 mX12_readStep 303 [some (.ref (79)), some (.int (v1)), some (.int (v63)), none] [] u70 Q X
    exact s_retV (by decide +kernel) rfl h
theorem xX12_readStep_227 {d : Nat} {x3 : Int32} {w : q_Sm} {Q : s_Po} {X : s_Xo} (h : vX12_readStep_227 d x3 w Q X) : s_Ex (d + 1) 0 mX12_readStep 227 [some (.ref (79)), none, none, some (.int (x3))] [] w Q X := by
  unfold vX12_readStep_227 at h
  refine s_blk [(.aload_n 0, 1, 0, 0)] 228 [some (.ref (79)), none, none, some (.int (x3))] [.ref (79)] w [] (by decide +kernel) (by refine qt_aload_n (r := 79) rfl ?_; exact qt_z rfl rfl rfl rfl rfl) trivial ?_
  refine s_callV (a := 0) (a' := 0) (As := []) (id := 79) (st := []) kX12_fine l_12_164 (by decide +kernel) (q_id_of rfl) rfl (Nat.le_of_ble_eq_true rfl) (s_mono h (s_I_of (fun v71 u72 h => ?_)) (fun _ _ h9 => h9))
  show s_Ex (d + 1) 0 mX12_readStep 231 [some (.ref (79)), none, none, some (.int (x3))] [.int (v71)] u72 Q X
  refine s_if (cd := .eq) (off := 19) 250 (by decide +kernel) (by decide) (fun hc => ?_) (fun hc => ?_)
  · replace h := h.1 hc
    refine s_blk [(.aload_n 0, 1, 0, 0), (.bipush 93, 2, 0, 0)] 253 [some (.ref (79)), none, none, some (.int (x3))] [.int (93), .ref (79)] u72 [] (by decide +kernel) (by refine qt_aload_n (r := 79) rfl ?_; refine qt_bipush qb_93 ?_; exact qt_z rfl rfl rfl rfl rfl) trivial ?_
    refine s_callV (a := 0) (a' := 0) (As := [.int (93)]) (id := 79) (st := []) kX12_sign l_12_297 (by decide +kernel) (q_id_of rfl) rfl (Nat.le_of_ble_eq_true rfl) (s_mono h (s_V_of (fun u74 h => ?_)) (fun _ _ h9 => h9))
    show s_Ex (d + 1) 0 mX12_readStep 256 [some (.ref (79)), none, none, some (.int (x3))] [] u74 Q X
    replace h := h _ rfl
    refine s_blk [(.aload_n 0, 1, 0, 0), (.dup, 1, 0, 0), (.getfield 175, 3, 12, 7), (.iconst 1, 1, 0, 0), (.isub, 1, 0, 0), (.putfield 175, 3, 12, 7), (.aload_n 0, 1, 0, 0)] 267 [some (.ref (79)), none, none, some (.int (x3))] [.ref (79)] (q_wI u74 79 7 ((u74.1 79 7) - 1)) [q_id 116 12 79, q_id 116 12 79] (by decide +kernel) (by refine qt_aload_n (r := 79) rfl ?_; refine qt_dupR ?_; refine qt_getI rfl rfl ?_; refine qt_iconst qc_1 ?_; refine qt_isub ?_; refine qt_putI rfl ?_; refine qt_aload_n (r := 79) rfl ?_; exact qt_z rfl rfl rfl rfl rfl) ⟨(q_id_of rfl), (q_id_of rfl)⟩ ?_
    refine s_callV (a := 0) (a' := 0) (As := []) (id := 79) (st := []) kX12_fine l_12_164 (by decide +kernel) (q_id_of rfl) rfl (Nat.le_of_ble_eq_true rfl) (s_mono h (s_I_of (fun v76 u77 h => ?_)) (fun _ _ h9 => h9))
    show s_Ex (d + 1) 0 mX12_readStep 270 [some (.ref (79)), none, none, some (.int (x3))] [.int (v76)] u77 Q X
    refine s_if (cd := .eq) (off := 15) 285 (by decide +kernel) (by decide) (fun hc => ?_) (fun hc => ?_)
    · replace h := h.1 hc
      refine s_blk [(.goto 12, 3, 297, 0), (.aload_n 0, 1, 0, 0), (.bipush 59, 2, 0, 0)] 300 [some (.ref (79)), none, none, some (.int (x3))] [.int (59), .ref (79)] u77 [] (by decide +kernel) (by refine qt_goto ?_; refine qt_aload_n (r := 79) rfl ?_; refine qt_bipush qb_59 ?_; exact qt_z rfl rfl rfl rfl rfl) trivial ?_
      refine s_callV (a := 0) (a' := 0) (As := [.int (59)]) (id := 79) (st := []) kX12_sign l_12_297 (by decide +kernel) (q_id_of rfl) rfl (Nat.le_of_ble_eq_true rfl) (s_mono h (s_V_of (fun u79 h => ?_)) (fun _ _ h9 => h9))
      show s_Ex (d + 1) 0 mX12_readStep 303 [some (.ref (79)), none, none, some (.int (x3))] [] u79 Q X
      exact s_retV (by decide +kernel) rfl h
    · replace h := h.2 hc
      obtain ⟨ho83, h⟩ := h
      replace h := h _ rfl
      refine s_blk [(.aload_n 0, 1, 0, 0), (.getfield 83, 3, 12, 42), (.iload_n 3, 1, 0, 0), (.iconst 2, 1, 0, 0), (.iadd, 1, 0, 0), (.aload_n 0, 1, 0, 0), (.getfield 351, 3, 12, 44), (.iastore, 1, 0, 0), (.goto 12, 3, 297, 0), (.aload_n 0, 1, 0, 0), (.bipush 59, 2, 0, 0)] 300 [some (.ref (79)), none, none, some (.int (x3))] [.int (59), .ref (79)] (q_wI u77 102 (Int32.toNatClampNeg (x3 + 2)) (u77.1 79 44)) [q_id 116 12 79, q_id 116 12 79, q_id 116 14 102, vp_in (x3 + 2) 150] (by decide +kernel) (by refine qt_aload_n (r := 79) rfl ?_; refine qt_getR (r := 102) rfl rfl rfl ?_; refine qt_iload_n (x := x3) rfl ?_; refine qt_iconst qc_2 ?_; refine qt_iadd ?_; refine qt_aload_n (r := 79) rfl ?_; refine qt_getI rfl rfl ?_; refine qt_iast ?_; refine qt_goto ?_; refine qt_aload_n (r := 79) rfl ?_; refine qt_bipush qb_59 ?_; exact qt_z rfl rfl rfl rfl rfl) ⟨(q_id_of rfl), (q_id_of rfl), (q_id_of rfl), ho83⟩ ?_
      refine s_callV (a := 0) (a' := 0) (As := [.int (59)]) (id := 79) (st := []) kX12_sign l_12_297 (by decide +kernel) (q_id_of rfl) rfl (Nat.le_of_ble_eq_true rfl) (s_mono h (s_V_of (fun u82 h => ?_)) (fun _ _ h9 => h9))
      show s_Ex (d + 1) 0 mX12_readStep 303 [some (.ref (79)), none, none, some (.int (x3))] [] u82 Q X
      exact s_retV (by decide +kernel) rfl h
  · replace h := h.2 hc
    refine s_blk [(.aload_n 0, 1, 0, 0)] 235 [some (.ref (79)), none, none, some (.int (x3))] [.ref (79)] u72 [] (by decide +kernel) (by refine qt_aload_n (r := 79) rfl ?_; exact qt_z rfl rfl rfl rfl rfl) trivial ?_
    refine s_callV (a := 0) (a' := 0) (As := []) (id := 79) (st := []) kX12_here l_12_147 (by decide +kernel) (q_id_of rfl) rfl (Nat.le_of_ble_eq_true rfl) (s_mono h (s_I_of (fun v84 u85 h => ?_)) (fun _ _ h9 => h9))
    show s_Ex (d + 1) 0 mX12_readStep 238 [some (.ref (79)), none, none, some (.int (x3))] [.int (v84)] u85 Q X
    refine s_blk [(.bipush 93, 2, 0, 0)] 240 [some (.ref (79)), none, none, some (.int (x3))] [.int (93), .int (v84)] u85 [] (by decide +kernel) (by refine qt_bipush qb_93 ?_; exact qt_z rfl rfl rfl rfl rfl) trivial ?_
    refine s_icmp (cd := .eq) (off := 10) 250 (by decide +kernel) (by decide) (fun hc => ?_) (fun hc => ?_)
    · replace h := h.1 hc
      refine s_blk [(.aload_n 0, 1, 0, 0), (.bipush 93, 2, 0, 0)] 253 [some (.ref (79)), none, none, some (.int (x3))] [.int (93), .ref (79)] u85 [] (by decide +kernel) (by refine qt_aload_n (r := 79) rfl ?_; refine qt_bipush qb_93 ?_; exact qt_z rfl rfl rfl rfl rfl) trivial ?_
      refine s_callV (a := 0) (a' := 0) (As := [.int (93)]) (id := 79) (st := []) kX12_sign l_12_297 (by decide +kernel) (q_id_of rfl) rfl (Nat.le_of_ble_eq_true rfl) (s_mono h (s_V_of (fun u87 h => ?_)) (fun _ _ h9 => h9))
      show s_Ex (d + 1) 0 mX12_readStep 256 [some (.ref (79)), none, none, some (.int (x3))] [] u87 Q X
      replace h := h _ rfl
      refine s_blk [(.aload_n 0, 1, 0, 0), (.dup, 1, 0, 0), (.getfield 175, 3, 12, 7), (.iconst 1, 1, 0, 0), (.isub, 1, 0, 0), (.putfield 175, 3, 12, 7), (.aload_n 0, 1, 0, 0)] 267 [some (.ref (79)), none, none, some (.int (x3))] [.ref (79)] (q_wI u87 79 7 ((u87.1 79 7) - 1)) [q_id 116 12 79, q_id 116 12 79] (by decide +kernel) (by refine qt_aload_n (r := 79) rfl ?_; refine qt_dupR ?_; refine qt_getI rfl rfl ?_; refine qt_iconst qc_1 ?_; refine qt_isub ?_; refine qt_putI rfl ?_; refine qt_aload_n (r := 79) rfl ?_; exact qt_z rfl rfl rfl rfl rfl) ⟨(q_id_of rfl), (q_id_of rfl)⟩ ?_
      refine s_callV (a := 0) (a' := 0) (As := []) (id := 79) (st := []) kX12_fine l_12_164 (by decide +kernel) (q_id_of rfl) rfl (Nat.le_of_ble_eq_true rfl) (s_mono h (s_I_of (fun v89 u90 h => ?_)) (fun _ _ h9 => h9))
      show s_Ex (d + 1) 0 mX12_readStep 270 [some (.ref (79)), none, none, some (.int (x3))] [.int (v89)] u90 Q X
      refine s_if (cd := .eq) (off := 15) 285 (by decide +kernel) (by decide) (fun hc => ?_) (fun hc => ?_)
      · replace h := h.1 hc
        refine s_blk [(.goto 12, 3, 297, 0), (.aload_n 0, 1, 0, 0), (.bipush 59, 2, 0, 0)] 300 [some (.ref (79)), none, none, some (.int (x3))] [.int (59), .ref (79)] u90 [] (by decide +kernel) (by refine qt_goto ?_; refine qt_aload_n (r := 79) rfl ?_; refine qt_bipush qb_59 ?_; exact qt_z rfl rfl rfl rfl rfl) trivial ?_
        refine s_callV (a := 0) (a' := 0) (As := [.int (59)]) (id := 79) (st := []) kX12_sign l_12_297 (by decide +kernel) (q_id_of rfl) rfl (Nat.le_of_ble_eq_true rfl) (s_mono h (s_V_of (fun u92 h => ?_)) (fun _ _ h9 => h9))
        show s_Ex (d + 1) 0 mX12_readStep 303 [some (.ref (79)), none, none, some (.int (x3))] [] u92 Q X
        exact s_retV (by decide +kernel) rfl h
      · replace h := h.2 hc
        obtain ⟨ho96, h⟩ := h
        replace h := h _ rfl
        refine s_blk [(.aload_n 0, 1, 0, 0), (.getfield 83, 3, 12, 42), (.iload_n 3, 1, 0, 0), (.iconst 2, 1, 0, 0), (.iadd, 1, 0, 0), (.aload_n 0, 1, 0, 0), (.getfield 351, 3, 12, 44), (.iastore, 1, 0, 0), (.goto 12, 3, 297, 0), (.aload_n 0, 1, 0, 0), (.bipush 59, 2, 0, 0)] 300 [some (.ref (79)), none, none, some (.int (x3))] [.int (59), .ref (79)] (q_wI u90 102 (Int32.toNatClampNeg (x3 + 2)) (u90.1 79 44)) [q_id 116 12 79, q_id 116 12 79, q_id 116 14 102, vp_in (x3 + 2) 150] (by decide +kernel) (by refine qt_aload_n (r := 79) rfl ?_; refine qt_getR (r := 102) rfl rfl rfl ?_; refine qt_iload_n (x := x3) rfl ?_; refine qt_iconst qc_2 ?_; refine qt_iadd ?_; refine qt_aload_n (r := 79) rfl ?_; refine qt_getI rfl rfl ?_; refine qt_iast ?_; refine qt_goto ?_; refine qt_aload_n (r := 79) rfl ?_; refine qt_bipush qb_59 ?_; exact qt_z rfl rfl rfl rfl rfl) ⟨(q_id_of rfl), (q_id_of rfl), (q_id_of rfl), ho96⟩ ?_
        refine s_callV (a := 0) (a' := 0) (As := [.int (59)]) (id := 79) (st := []) kX12_sign l_12_297 (by decide +kernel) (q_id_of rfl) rfl (Nat.le_of_ble_eq_true rfl) (s_mono h (s_V_of (fun u95 h => ?_)) (fun _ _ h9 => h9))
        show s_Ex (d + 1) 0 mX12_readStep 303 [some (.ref (79)), none, none, some (.int (x3))] [] u95 Q X
        exact s_retV (by decide +kernel) rfl h
    · replace h := h.2 hc
      refine s_blk [(.aload_n 0, 1, 0, 0)] 244 [some (.ref (79)), none, none, some (.int (x3))] [.ref (79)] u85 [] (by decide +kernel) (by refine qt_aload_n (r := 79) rfl ?_; exact qt_z rfl rfl rfl rfl rfl) trivial ?_
      refine s_callV (a := 0) (a' := 0) (As := []) (id := 79) (st := []) kX12_readStep l_12_366 (by decide +kernel) (q_id_of rfl) rfl (Nat.le_of_ble_eq_true rfl) (s_mono h (s_V_of (fun u98 h => ?_)) (fun _ _ h9 => h9))
      show s_Ex (d + 1) 0 mX12_readStep 247 [some (.ref (79)), none, none, some (.int (x3))] [] u98 Q X
      refine s_blk [(.goto (-20), 3, 227, 0)] 227 [some (.ref (79)), none, none, some (.int (x3))] [] u98 [] (by decide +kernel) (by refine qt_goto ?_; exact qt_z rfl rfl rfl rfl rfl) trivial ?_
      exact h
theorem eX12_readStep {d : Nat}  {w : q_Sm} {Q : s_Po} {X : s_Xo} (h : vX12_readStep_0 d  w Q X) : s_Ev (d + 1) 0 mX12_readStep w [.ref (79)] Q X := s_of (by decide +kernel) rfl (Nat.le_of_ble_eq_true rfl) (xX12_readStep_0 h)
