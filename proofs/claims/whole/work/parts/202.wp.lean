def vX12_coast_0 (d : Nat) (x1 : Int32) (w : q_Sm) (Q : s_Po) (X : s_Xo) : Prop := ∀ w_1 : q_Sm, w_1 = q_wI w 79 0 0 → ((x1 < 0) → s_EvI d 0 mX12_may w_1 [.ref (79), .int (0), .int (1), .int (1)] (fun v2 u3 => ((¬ v2 = 0) → s_EvV d 0 mX12_begins u3 [.ref (79), .int (x1)] (fun u5 => s_EvV d 0 mX12_clears u5 [.ref (79)] (fun u7 => s_Ex (d + 1) 0 mX12_coast 44 [some (.ref (79)), none, some (.int (0)), none, none, none] [] u7 Q X) X) X) ∧ (¬ (¬ v2 = 0) → Q (some (.int (0))) u3)) X) ∧ (¬ (x1 < 0) → (((w_1.1 79 2) < x1) → s_EvI d 0 mX12_may w_1 [.ref (79), .int (0), .int (1), .int (1)] (fun v8 u9 => ((¬ v8 = 0) → s_EvV d 0 mX12_begins u9 [.ref (79), .int (x1)] (fun u11 => s_EvV d 0 mX12_clears u11 [.ref (79)] (fun u13 => s_Ex (d + 1) 0 mX12_coast 44 [some (.ref (79)), none, some (.int (0)), none, none, none] [] u13 Q X) X) X) ∧ (¬ (¬ v8 = 0) → Q (some (.int (0))) u9)) X) ∧ (¬ ((w_1.1 79 2) < x1) → s_EvI d 0 mX12_may w_1 [.ref (79), .int (1), .int (1), .int (1)] (fun v14 u15 => ((¬ v14 = 0) → s_EvV d 0 mX12_begins u15 [.ref (79), .int (x1)] (fun u17 => s_EvV d 0 mX12_clears u17 [.ref (79)] (fun u19 => s_Ex (d + 1) 0 mX12_coast 44 [some (.ref (79)), none, some (.int (0)), none, none, none] [] u19 Q X) X) X) ∧ (¬ (¬ v14 = 0) → Q (some (.int (0))) u15)) X))
def vX12_coast_44 (d : Nat) (x2 : Int32) (w : q_Sm) (Q : s_Po) (X : s_Xo) : Prop := s_EvI d 0 mX12_fine w [.ref (79)] (fun v20 u21 => ((v20 = 0) → s_Ex (d + 1) 0 mX12_coast 329 [some (.ref (79)), none, none, none, none, none] [] u21 Q X) ∧ (¬ (v20 = 0) → s_EvI d 0 mX12_isMore u21 [.ref (79)] (fun v22 u23 => ((v22 = 0) → s_Ex (d + 1) 0 mX12_coast 329 [some (.ref (79)), none, none, none, none, none] [] u23 Q X) ∧ (¬ (v22 = 0) → s_EvI d 0 mX12_isCreditor u23 [.ref (79)] (fun v24 u25 => s_EvI d 0 mX12_isWedding u25 [.ref (79)] (fun v26 u27 => s_EvI d 0 mX12_word u27 [.ref (79)] (fun v28 u29 => ((¬ v24 = 0) → s_Ex (d + 1) 0 mX12_coast 161 [some (.ref (79)), none, some (.int (x2)), some (.int (v24)), some (.int (v26)), some (.int (v28))] [] u29 Q X) ∧ (¬ (¬ v24 = 0) → ((¬ v26 = 0) → s_Ex (d + 1) 0 mX12_coast 161 [some (.ref (79)), none, some (.int (x2)), some (.int (v24)), some (.int (v26)), some (.int (v28))] [] u29 Q X) ∧ (¬ (¬ v26 = 0) → s_EvI d 0 mX12_of u29 [.retAddr (29)] (fun v30 u31 => ((v28 = v30) → s_Ex (d + 1) 0 mX12_coast 161 [some (.ref (79)), none, some (.int (x2)), some (.int (v24)), some (.int (v26)), some (.int (v28))] [] u31 Q X) ∧ (¬ (v28 = v30) → s_EvI d 0 mX12_of u31 [.retAddr (30)] (fun v32 u33 => ((v28 = v32) → s_Ex (d + 1) 0 mX12_coast 161 [some (.ref (79)), none, some (.int (x2)), some (.int (v24)), some (.int (v26)), some (.int (v28))] [] u33 Q X) ∧ (¬ (v28 = v32) → s_EvI d 0 mX12_of u33 [.retAddr (31)] (fun v34 u35 => ((v28 = v34) → s_Ex (d + 1) 0 mX12_coast 161 [some (.ref (79)), none, some (.int (x2)), some (.int (v24)), some (.int (v26)), some (.int (v28))] [] u35 Q X) ∧ (¬ (v28 = v34) → s_EvI d 0 mX12_of u35 [.retAddr (32)] (fun v36 u37 => ((v28 = v36) → s_Ex (d + 1) 0 mX12_coast 161 [some (.ref (79)), none, some (.int (x2)), some (.int (v24)), some (.int (v26)), some (.int (v28))] [] u37 Q X) ∧ (¬ (v28 = v36) → s_EvI d 0 mX12_of u37 [.retAddr (33)] (fun v38 u39 => ((v28 = v38) → s_Ex (d + 1) 0 mX12_coast 161 [some (.ref (79)), none, some (.int (x2)), some (.int (v24)), some (.int (v26)), some (.int (v28))] [] u39 Q X) ∧ (¬ (v28 = v38) → s_EvI d 0 mX12_of u39 [.retAddr (34)] (fun v40 u41 => ((v28 = v40) → s_Ex (d + 1) 0 mX12_coast 161 [some (.ref (79)), none, some (.int (x2)), some (.int (v24)), some (.int (v26)), some (.int (v28))] [] u41 Q X) ∧ (¬ (v28 = v40) → s_EvV d 0 mX12_wrong u41 [.ref (79), .int (1), .int (u41.1 79 4)] (fun u43 => s_Ex (d + 1) 0 mX12_coast 242 [some (.ref (79)), none, some (.int (x2)), some (.int (v24)), some (.int (v26)), some (.int (v28))] [] u43 Q X) X)) X)) X)) X)) X)) X)) X))) X) X) X)) X)) X
def vX12_coast_329 (d : Nat)  (w : q_Sm) (Q : s_Po) (X : s_Xo) : Prop := s_EvI d 0 mX12_result w [.ref (79), .int (w.1 79 25)] (fun v44 u45 => ((¬ (u45.1 79 5) = (-1)) → s_Ex (d + 1) 0 mX12_coast 350 [none, none, none, some (.int (v44)), none, none] [] u45 Q X) ∧ (¬ (¬ (u45.1 79 5) = (-1)) → s_EvV d 0 mX12_sets u45 [.ref (79)] (fun u47 => s_Ex (d + 1) 0 mX12_coast 350 [none, none, none, some (.int (v44)), none, none] [] u47 Q X) X)) X
def vX12_coast_161 (d : Nat) (x2 : Int32) (x3 : Int32) (x4 : Int32) (x5 : Int32) (w : q_Sm) (Q : s_Po) (X : s_Xo) : Prop := ((x2 = 60) → s_Ex (d + 1) 0 mX12_coast 233 [some (.ref (79)), none, some (.int (x2)), some (.int (x3)), some (.int (x4)), some (.int (x5))] [] w Q X) ∧ (¬ (x2 = 60) → ((x3 = 0) → s_Ex (d + 1) 0 mX12_coast 180 [some (.ref (79)), none, some (.int (x2)), some (.int (x3)), some (.int (x4)), some (.int (x5))] [] w Q X) ∧ (¬ (x3 = 0) → (((w.1 79 24) = 6) → s_Ex (d + 1) 0 mX12_coast 233 [some (.ref (79)), none, some (.int (x2)), some (.int (x3)), some (.int (x4)), some (.int (x5))] [] w Q X) ∧ (¬ ((w.1 79 24) = 6) → s_Ex (d + 1) 0 mX12_coast 180 [some (.ref (79)), none, some (.int (x2)), some (.int (x3)), some (.int (x4)), some (.int (x5))] [] w Q X)))
def vX12_coast_242 (d : Nat) (x2 : Int32) (x3 : Int32) (x4 : Int32) (x5 : Int32) (w : q_Sm) (Q : s_Po) (X : s_Xo) : Prop := s_EvI d 0 mX12_fine w [.ref (79)] (fun v48 u49 => ((¬ v48 = 0) → ((¬ x3 = 0) → s_Ex (d + 1) 0 mX12_coast 261 [some (.ref (79)), none, some (.int (x2)), some (.int (x3)), some (.int (x4)), some (.int (x5))] [] u49 Q X) ∧ (¬ (¬ x3 = 0) → ((x4 = 0) → s_EvV d 0 mX12_pass u49 [.ref (79)] (fun u51 => s_Ex (d + 1) 0 mX12_coast 288 [some (.ref (79)), none, some (.int (x2)), some (.int (x3)), some (.int (x4)), some (.int (x5))] [] u51 Q X) X) ∧ (¬ (x4 = 0) → s_Ex (d + 1) 0 mX12_coast 261 [some (.ref (79)), none, some (.int (x2)), some (.int (x3)), some (.int (x4)), some (.int (x5))] [] u49 Q X))) ∧ (¬ (¬ v48 = 0) → s_Ex (d + 1) 0 mX12_coast 329 [some (.ref (79)), none, none, none, none, none] [] u49 Q X)) X
def vX12_coast_350 (d : Nat) (x3 : Int32) (w : q_Sm) (Q : s_Po) (X : s_Xo) : Prop := Q (some (.int (x3))) w
def vX12_coast_233 (d : Nat) (x2 : Int32) (x3 : Int32) (x4 : Int32) (x5 : Int32) (w : q_Sm) (Q : s_Po) (X : s_Xo) : Prop := s_EvV d 0 mX12_wrong w [.ref (79), .int (3), .int (w.1 79 4)] (fun u53 => s_Ex (d + 1) 0 mX12_coast 242 [some (.ref (79)), none, some (.int (x2)), some (.int (x3)), some (.int (x4)), some (.int (x5))] [] u53 Q X) X
def vX12_coast_180 (d : Nat) (x2 : Int32) (x3 : Int32) (x4 : Int32) (x5 : Int32) (w : q_Sm) (Q : s_Po) (X : s_Xo) : Prop := ((x4 = 0) → s_Ex (d + 1) 0 mX12_coast 194 [some (.ref (79)), none, some (.int (x2)), some (.int (x3)), some (.int (x4)), some (.int (x5))] [] w Q X) ∧ (¬ (x4 = 0) → (((w.1 79 27) = 6) → s_Ex (d + 1) 0 mX12_coast 233 [some (.ref (79)), none, some (.int (x2)), some (.int (x3)), some (.int (x4)), some (.int (x5))] [] w Q X) ∧ (¬ ((w.1 79 27) = 6) → s_Ex (d + 1) 0 mX12_coast 194 [some (.ref (79)), none, some (.int (x2)), some (.int (x3)), some (.int (x4)), some (.int (x5))] [] w Q X))
def vX12_coast_261 (d : Nat) (x2 : Int32) (x3 : Int32) (x4 : Int32) (x5 : Int32) (w : q_Sm) (Q : s_Po) (X : s_Xo) : Prop := ((x3 = 0) → ∀ w_54 : q_Sm, w_54 = q_wI w 79 4 ((w.1 79 4) + 7) → s_Ex (d + 1) 0 mX12_coast 288 [some (.ref (79)), none, some (.int (x2)), some (.int (x3)), some (.int (x4)), some (.int (x5))] [] w_54 Q X) ∧ (¬ (x3 = 0) → ∀ w_55 : q_Sm, w_55 = q_wI w 79 4 ((w.1 79 4) + 8) → s_Ex (d + 1) 0 mX12_coast 288 [some (.ref (79)), none, some (.int (x2)), some (.int (x3)), some (.int (x4)), some (.int (x5))] [] w_55 Q X)
def vX12_coast_288 (d : Nat) (x2 : Int32) (x3 : Int32) (x4 : Int32) (x5 : Int32) (w : q_Sm) (Q : s_Po) (X : s_Xo) : Prop := ((x3 = 0) → ((x4 = 0) → s_EvV d 0 mX12_readRow w [.ref (79), .int (x5)] (fun u57 => s_Ex (d + 1) 0 mX12_coast 317 [some (.ref (79)), none, some (.int (x2)), none, none, none] [] u57 Q X) X) ∧ (¬ (x4 = 0) → s_EvV d 0 mX12_readWedding w [.ref (79)] (fun u59 => s_Ex (d + 1) 0 mX12_coast 317 [some (.ref (79)), none, some (.int (x2)), none, none, none] [] u59 Q X) X)) ∧ (¬ (x3 = 0) → s_EvV d 0 mX12_readCreditor w [.ref (79)] (fun u61 => s_Ex (d + 1) 0 mX12_coast 317 [some (.ref (79)), none, some (.int (x2)), none, none, none] [] u61 Q X) X)
def vX12_coast_194 (d : Nat) (x2 : Int32) (x3 : Int32) (x4 : Int32) (x5 : Int32) (w : q_Sm) (Q : s_Po) (X : s_Xo) : Prop := s_EvI d 0 mX12_of w [.retAddr (29)] (fun v62 u63 => ((¬ x5 = v62) → s_Ex (d + 1) 0 mX12_coast 213 [some (.ref (79)), none, some (.int (x2)), some (.int (x3)), some (.int (x4)), some (.int (x5))] [] u63 Q X) ∧ (¬ (¬ x5 = v62) → (((u63.1 79 25) = 10) → s_Ex (d + 1) 0 mX12_coast 233 [some (.ref (79)), none, some (.int (x2)), some (.int (x3)), some (.int (x4)), some (.int (x5))] [] u63 Q X) ∧ (¬ ((u63.1 79 25) = 10) → s_Ex (d + 1) 0 mX12_coast 213 [some (.ref (79)), none, some (.int (x2)), some (.int (x3)), some (.int (x4)), some (.int (x5))] [] u63 Q X))) X
def vX12_coast_317 (d : Nat) (x2 : Int32) (w : q_Sm) (Q : s_Po) (X : s_Xo) : Prop := s_EvV d 0 mX12_sign w [.ref (79), .int (59)] (fun u65 => s_Ex (d + 1) 0 mX12_coast 44 [some (.ref (79)), none, some (.int (x2 + 1)), none, none, none] [] u65 Q X) X
def vX12_coast_213 (d : Nat) (x2 : Int32) (x3 : Int32) (x4 : Int32) (x5 : Int32) (w : q_Sm) (Q : s_Po) (X : s_Xo) : Prop := s_EvI d 0 mX12_of w [.retAddr (30)] (fun v66 u67 => ((¬ x5 = v66) → s_Ex (d + 1) 0 mX12_coast 242 [some (.ref (79)), none, some (.int (x2)), some (.int (x3)), some (.int (x4)), some (.int (x5))] [] u67 Q X) ∧ (¬ (¬ x5 = v66) → ((¬ (u67.1 79 26) = 12) → s_Ex (d + 1) 0 mX12_coast 242 [some (.ref (79)), none, some (.int (x2)), some (.int (x3)), some (.int (x4)), some (.int (x5))] [] u67 Q X) ∧ (¬ (¬ (u67.1 79 26) = 12) → s_Ex (d + 1) 0 mX12_coast 233 [some (.ref (79)), none, some (.int (x2)), some (.int (x3)), some (.int (x4)), some (.int (x5))] [] u67 Q X))) X
theorem xX12_coast_0 {d : Nat} {x1 : Int32} {w : q_Sm} {Q : s_Po} {X : s_Xo} (h : vX12_coast_0 d x1 w Q X) : s_Ex (d + 1) 0 mX12_coast 0 [some (.ref (79)), some (.int (x1)), none, none, none, none] [] w Q X := by
  unfold vX12_coast_0 at h
  replace h := h _ rfl
  refine s_blk [(.aload_n 0, 1, 0, 0), (.iconst 0, 1, 0, 0), (.putfield 3, 3, 12, 0), (.aload_n 0, 1, 0, 0), (.iload_n 1, 1, 0, 0)] 7 [some (.ref (79)), some (.int (x1)), none, none, none, none] [.int (x1), .ref (79)] (q_wI w 79 0 0) [q_id 116 12 79] (by decide +kernel) (by refine qt_aload_n (r := 79) rfl ?_; refine qt_iconst qc_0 ?_; refine qt_putI rfl ?_; refine qt_aload_n (r := 79) rfl ?_; refine qt_iload_n (x := x1) rfl ?_; exact qt_z rfl rfl rfl rfl rfl) (q_id_of rfl) ?_
  refine s_if (cd := .lt) (off := 15) 22 (by decide +kernel) (by decide) (fun hc => ?_) (fun hc => ?_)
  · replace h := h.1 hc
    refine s_blk [(.iconst 0, 1, 0, 0), (.iconst 1, 1, 0, 0), (.iconst 1, 1, 0, 0)] 25 [some (.ref (79)), some (.int (x1)), none, none, none, none] [.int (1), .int (1), .int (0), .ref (79)] (q_wI w 79 0 0) [] (by decide +kernel) (by refine qt_iconst qc_0 ?_; refine qt_iconst qc_1 ?_; refine qt_iconst qc_1 ?_; exact qt_z rfl rfl rfl rfl rfl) trivial ?_
    refine s_callV (a := 0) (a' := 0) (As := [.int (0), .int (1), .int (1)]) (id := 79) (st := []) kX12_may l_12_270 (by decide +kernel) (q_id_of rfl) rfl (Nat.le_of_ble_eq_true rfl) (s_mono h (s_I_of (fun v2 u3 h => ?_)) (fun _ _ h9 => h9))
    show s_Ex (d + 1) 0 mX12_coast 28 [some (.ref (79)), some (.int (x1)), none, none, none, none] [.int (v2)] u3 Q X
    refine s_if (cd := .ne) (off := 5) 33 (by decide +kernel) (by decide) (fun hc => ?_) (fun hc => ?_)
    · replace h := h.1 hc
      refine s_blk [(.aload_n 0, 1, 0, 0), (.iload_n 1, 1, 0, 0)] 35 [some (.ref (79)), some (.int (x1)), none, none, none, none] [.int (x1), .ref (79)] u3 [] (by decide +kernel) (by refine qt_aload_n (r := 79) rfl ?_; refine qt_iload_n (x := x1) rfl ?_; exact qt_z rfl rfl rfl rfl rfl) trivial ?_
      refine s_callV (a := 0) (a' := 0) (As := [.int (x1)]) (id := 79) (st := []) kX12_begins l_12_274 (by decide +kernel) (q_id_of rfl) rfl (Nat.le_of_ble_eq_true rfl) (s_mono h (s_V_of (fun u5 h => ?_)) (fun _ _ h9 => h9))
      show s_Ex (d + 1) 0 mX12_coast 38 [some (.ref (79)), some (.int (x1)), none, none, none, none] [] u5 Q X
      refine s_blk [(.aload_n 0, 1, 0, 0)] 39 [some (.ref (79)), some (.int (x1)), none, none, none, none] [.ref (79)] u5 [] (by decide +kernel) (by refine qt_aload_n (r := 79) rfl ?_; exact qt_z rfl rfl rfl rfl rfl) trivial ?_
      refine s_callV (a := 0) (a' := 0) (As := []) (id := 79) (st := []) kX12_clears l_12_126 (by decide +kernel) (q_id_of rfl) rfl (Nat.le_of_ble_eq_true rfl) (s_mono h (s_V_of (fun u7 h => ?_)) (fun _ _ h9 => h9))
      show s_Ex (d + 1) 0 mX12_coast 42 [some (.ref (79)), some (.int (x1)), none, none, none, none] [] u7 Q X
      refine s_blk [(.iconst 0, 1, 0, 0), (.istore_n 2, 1, 0, 0), (.nop, 0, 1, 0)] 44 [some (.ref (79)), none, some (.int (0)), none, none, none] [] u7 [] (by decide +kernel) (by refine qt_iconst qc_0 ?_; refine qt_istore_n (L' := [some (.ref (79)), some (.int (x1)), some (.int (0)), none, none, none]) rfl ?_; refine qt_nop (L' := [some (.ref (79)), none, some (.int (0)), none, none, none]) rfl ?_; exact qt_z rfl rfl rfl rfl rfl) trivial ?_
      exact h
    · replace h := h.2 hc
      refine s_blk [(.iconst 0, 1, 0, 0)] 32 [some (.ref (79)), some (.int (x1)), none, none, none, none] [.int (0)] u3 [] (by decide +kernel) (by refine qt_iconst qc_0 ?_; exact qt_z rfl rfl rfl rfl rfl) trivial ?_
      exact s_retI .int (by decide +kernel) rfl rfl h
  · replace h := h.2 hc
    refine s_blk [(.iload_n 1, 1, 0, 0), (.aload_n 0, 1, 0, 0), (.getfield 132, 3, 12, 2)] 15 [some (.ref (79)), some (.int (x1)), none, none, none, none] [.int ((q_wI w 79 0 0).1 79 2), .int (x1), .ref (79)] (q_wI w 79 0 0) [q_id 116 12 79] (by decide +kernel) (by refine qt_iload_n (x := x1) rfl ?_; refine qt_aload_n (r := 79) rfl ?_; refine qt_getI rfl rfl ?_; exact qt_z rfl rfl rfl rfl rfl) (q_id_of rfl) ?_
    refine s_icmp (cd := .gt) (off := 7) 22 (by decide +kernel) (by decide) (fun hc => ?_) (fun hc => ?_)
    · replace h := h.1 hc
      refine s_blk [(.iconst 0, 1, 0, 0), (.iconst 1, 1, 0, 0), (.iconst 1, 1, 0, 0)] 25 [some (.ref (79)), some (.int (x1)), none, none, none, none] [.int (1), .int (1), .int (0), .ref (79)] (q_wI w 79 0 0) [] (by decide +kernel) (by refine qt_iconst qc_0 ?_; refine qt_iconst qc_1 ?_; refine qt_iconst qc_1 ?_; exact qt_z rfl rfl rfl rfl rfl) trivial ?_
      refine s_callV (a := 0) (a' := 0) (As := [.int (0), .int (1), .int (1)]) (id := 79) (st := []) kX12_may l_12_270 (by decide +kernel) (q_id_of rfl) rfl (Nat.le_of_ble_eq_true rfl) (s_mono h (s_I_of (fun v8 u9 h => ?_)) (fun _ _ h9 => h9))
      show s_Ex (d + 1) 0 mX12_coast 28 [some (.ref (79)), some (.int (x1)), none, none, none, none] [.int (v8)] u9 Q X
      refine s_if (cd := .ne) (off := 5) 33 (by decide +kernel) (by decide) (fun hc => ?_) (fun hc => ?_)
      · replace h := h.1 hc
        refine s_blk [(.aload_n 0, 1, 0, 0), (.iload_n 1, 1, 0, 0)] 35 [some (.ref (79)), some (.int (x1)), none, none, none, none] [.int (x1), .ref (79)] u9 [] (by decide +kernel) (by refine qt_aload_n (r := 79) rfl ?_; refine qt_iload_n (x := x1) rfl ?_; exact qt_z rfl rfl rfl rfl rfl) trivial ?_
        refine s_callV (a := 0) (a' := 0) (As := [.int (x1)]) (id := 79) (st := []) kX12_begins l_12_274 (by decide +kernel) (q_id_of rfl) rfl (Nat.le_of_ble_eq_true rfl) (s_mono h (s_V_of (fun u11 h => ?_)) (fun _ _ h9 => h9))
        show s_Ex (d + 1) 0 mX12_coast 38 [some (.ref (79)), some (.int (x1)), none, none, none, none] [] u11 Q X
        refine s_blk [(.aload_n 0, 1, 0, 0)] 39 [some (.ref (79)), some (.int (x1)), none, none, none, none] [.ref (79)] u11 [] (by decide +kernel) (by refine qt_aload_n (r := 79) rfl ?_; exact qt_z rfl rfl rfl rfl rfl) trivial ?_
        refine s_callV (a := 0) (a' := 0) (As := []) (id := 79) (st := []) kX12_clears l_12_126 (by decide +kernel) (q_id_of rfl) rfl (Nat.le_of_ble_eq_true rfl) (s_mono h (s_V_of (fun u13 h => ?_)) (fun _ _ h9 => h9))
        show s_Ex (d + 1) 0 mX12_coast 42 [some (.ref (79)), some (.int (x1)), none, none, none, none] [] u13 Q X
        refine s_blk [(.iconst 0, 1, 0, 0), (.istore_n 2, 1, 0, 0), (.nop, 0, 1, 0)] 44 [some (.ref (79)), none, some (.int (0)), none, none, none] [] u13 [] (by decide +kernel) (by refine qt_iconst qc_0 ?_; refine qt_istore_n (L' := [some (.ref (79)), some (.int (x1)), some (.int (0)), none, none, none]) rfl ?_; refine qt_nop (L' := [some (.ref (79)), none, some (.int (0)), none, none, none]) rfl ?_; exact qt_z rfl rfl rfl rfl rfl) trivial ?_
        exact h
      · replace h := h.2 hc
        refine s_blk [(.iconst 0, 1, 0, 0)] 32 [some (.ref (79)), some (.int (x1)), none, none, none, none] [.int (0)] u9 [] (by decide +kernel) (by refine qt_iconst qc_0 ?_; exact qt_z rfl rfl rfl rfl rfl) trivial ?_
        exact s_retI .int (by decide +kernel) rfl rfl h
    · replace h := h.2 hc
      refine s_blk [(.iconst 1, 1, 0, 0), (.goto 4, 3, 23, 0), (.iconst 1, 1, 0, 0), (.iconst 1, 1, 0, 0)] 25 [some (.ref (79)), some (.int (x1)), none, none, none, none] [.int (1), .int (1), .int (1), .ref (79)] (q_wI w 79 0 0) [] (by decide +kernel) (by refine qt_iconst qc_1 ?_; refine qt_goto ?_; refine qt_iconst qc_1 ?_; refine qt_iconst qc_1 ?_; exact qt_z rfl rfl rfl rfl rfl) trivial ?_
      refine s_callV (a := 0) (a' := 0) (As := [.int (1), .int (1), .int (1)]) (id := 79) (st := []) kX12_may l_12_270 (by decide +kernel) (q_id_of rfl) rfl (Nat.le_of_ble_eq_true rfl) (s_mono h (s_I_of (fun v14 u15 h => ?_)) (fun _ _ h9 => h9))
      show s_Ex (d + 1) 0 mX12_coast 28 [some (.ref (79)), some (.int (x1)), none, none, none, none] [.int (v14)] u15 Q X
      refine s_if (cd := .ne) (off := 5) 33 (by decide +kernel) (by decide) (fun hc => ?_) (fun hc => ?_)
      · replace h := h.1 hc
        refine s_blk [(.aload_n 0, 1, 0, 0), (.iload_n 1, 1, 0, 0)] 35 [some (.ref (79)), some (.int (x1)), none, none, none, none] [.int (x1), .ref (79)] u15 [] (by decide +kernel) (by refine qt_aload_n (r := 79) rfl ?_; refine qt_iload_n (x := x1) rfl ?_; exact qt_z rfl rfl rfl rfl rfl) trivial ?_
        refine s_callV (a := 0) (a' := 0) (As := [.int (x1)]) (id := 79) (st := []) kX12_begins l_12_274 (by decide +kernel) (q_id_of rfl) rfl (Nat.le_of_ble_eq_true rfl) (s_mono h (s_V_of (fun u17 h => ?_)) (fun _ _ h9 => h9))
        show s_Ex (d + 1) 0 mX12_coast 38 [some (.ref (79)), some (.int (x1)), none, none, none, none] [] u17 Q X
        refine s_blk [(.aload_n 0, 1, 0, 0)] 39 [some (.ref (79)), some (.int (x1)), none, none, none, none] [.ref (79)] u17 [] (by decide +kernel) (by refine qt_aload_n (r := 79) rfl ?_; exact qt_z rfl rfl rfl rfl rfl) trivial ?_
        refine s_callV (a := 0) (a' := 0) (As := []) (id := 79) (st := []) kX12_clears l_12_126 (by decide +kernel) (q_id_of rfl) rfl (Nat.le_of_ble_eq_true rfl) (s_mono h (s_V_of (fun u19 h => ?_)) (fun _ _ h9 => h9))
        show s_Ex (d + 1) 0 mX12_coast 42 [some (.ref (79)), some (.int (x1)), none, none, none, none] [] u19 Q X
        refine s_blk [(.iconst 0, 1, 0, 0), (.istore_n 2, 1, 0, 0), (.nop, 0, 1, 0)] 44 [some (.ref (79)), none, some (.int (0)), none, none, none] [] u19 [] (by decide +kernel) (by refine qt_iconst qc_0 ?_; refine qt_istore_n (L' := [some (.ref (79)), some (.int (x1)), some (.int (0)), none, none, none]) rfl ?_; refine qt_nop (L' := [some (.ref (79)), none, some (.int (0)), none, none, none]) rfl ?_; exact qt_z rfl rfl rfl rfl rfl) trivial ?_
        exact h
      · replace h := h.2 hc
        refine s_blk [(.iconst 0, 1, 0, 0)] 32 [some (.ref (79)), some (.int (x1)), none, none, none, none] [.int (0)] u15 [] (by decide +kernel) (by refine qt_iconst qc_0 ?_; exact qt_z rfl rfl rfl rfl rfl) trivial ?_
        exact s_retI .int (by decide +kernel) rfl rfl h
theorem xX12_coast_44 {d : Nat} {x2 : Int32} {w : q_Sm} {Q : s_Po} {X : s_Xo} (h : vX12_coast_44 d x2 w Q X) : s_Ex (d + 1) 0 mX12_coast 44 [some (.ref (79)), none, some (.int (x2)), none, none, none] [] w Q X := by
  unfold vX12_coast_44 at h
  refine s_blk [(.aload_n 0, 1, 0, 0)] 45 [some (.ref (79)), none, some (.int (x2)), none, none, none] [.ref (79)] w [] (by decide +kernel) (by refine qt_aload_n (r := 79) rfl ?_; exact qt_z rfl rfl rfl rfl rfl) trivial ?_
  refine s_callV (a := 0) (a' := 0) (As := []) (id := 79) (st := []) kX12_fine l_12_164 (by decide +kernel) (q_id_of rfl) rfl (Nat.le_of_ble_eq_true rfl) (s_mono h (s_I_of (fun v20 u21 h => ?_)) (fun _ _ h9 => h9))
  show s_Ex (d + 1) 0 mX12_coast 48 [some (.ref (79)), none, some (.int (x2)), none, none, none] [.int (v20)] u21 Q X
  refine s_if (cd := .eq) (off := 281) 329 (by decide +kernel) (by decide) (fun hc => ?_) (fun hc => ?_)
  · replace h := h.1 hc
    refine s_blk [(.nop, 0, 2, 0)] 329 [some (.ref (79)), none, none, none, none, none] [] u21 [] (by decide +kernel) (by refine qt_nop (L' := [some (.ref (79)), none, none, none, none, none]) rfl ?_; exact qt_z rfl rfl rfl rfl rfl) trivial ?_
    exact h
  · replace h := h.2 hc
    refine s_blk [(.aload_n 0, 1, 0, 0)] 52 [some (.ref (79)), none, some (.int (x2)), none, none, none] [.ref (79)] u21 [] (by decide +kernel) (by refine qt_aload_n (r := 79) rfl ?_; exact qt_z rfl rfl rfl rfl rfl) trivial ?_
    refine s_callV (a := 0) (a' := 0) (As := []) (id := 79) (st := []) kX12_isMore l_12_278 (by decide +kernel) (q_id_of rfl) rfl (Nat.le_of_ble_eq_true rfl) (s_mono h (s_I_of (fun v22 u23 h => ?_)) (fun _ _ h9 => h9))
    show s_Ex (d + 1) 0 mX12_coast 55 [some (.ref (79)), none, some (.int (x2)), none, none, none] [.int (v22)] u23 Q X
    refine s_if (cd := .eq) (off := 274) 329 (by decide +kernel) (by decide) (fun hc => ?_) (fun hc => ?_)
    · replace h := h.1 hc
      refine s_blk [(.nop, 0, 2, 0)] 329 [some (.ref (79)), none, none, none, none, none] [] u23 [] (by decide +kernel) (by refine qt_nop (L' := [some (.ref (79)), none, none, none, none, none]) rfl ?_; exact qt_z rfl rfl rfl rfl rfl) trivial ?_
      exact h
    · replace h := h.2 hc
      refine s_blk [(.aload_n 0, 1, 0, 0)] 59 [some (.ref (79)), none, some (.int (x2)), none, none, none] [.ref (79)] u23 [] (by decide +kernel) (by refine qt_aload_n (r := 79) rfl ?_; exact qt_z rfl rfl rfl rfl rfl) trivial ?_
      refine s_callV (a := 0) (a' := 0) (As := []) (id := 79) (st := []) kX12_isCreditor l_12_281 (by decide +kernel) (q_id_of rfl) rfl (Nat.le_of_ble_eq_true rfl) (s_mono h (s_I_of (fun v24 u25 h => ?_)) (fun _ _ h9 => h9))
      show s_Ex (d + 1) 0 mX12_coast 62 [some (.ref (79)), none, some (.int (x2)), none, none, none] [.int (v24)] u25 Q X
      refine s_blk [(.istore_n 3, 1, 0, 0), (.aload_n 0, 1, 0, 0)] 64 [some (.ref (79)), none, some (.int (x2)), some (.int (v24)), none, none] [.ref (79)] u25 [] (by decide +kernel) (by refine qt_istore_n (L' := [some (.ref (79)), none, some (.int (x2)), some (.int (v24)), none, none]) rfl ?_; refine qt_aload_n (r := 79) rfl ?_; exact qt_z rfl rfl rfl rfl rfl) trivial ?_
      refine s_callV (a := 0) (a' := 0) (As := []) (id := 79) (st := []) kX12_isWedding l_12_284 (by decide +kernel) (q_id_of rfl) rfl (Nat.le_of_ble_eq_true rfl) (s_mono h (s_I_of (fun v26 u27 h => ?_)) (fun _ _ h9 => h9))
      show s_Ex (d + 1) 0 mX12_coast 67 [some (.ref (79)), none, some (.int (x2)), some (.int (v24)), none, none] [.int (v26)] u27 Q X
      refine s_blk [(.istore 4, 2, 0, 0), (.aload_n 0, 1, 0, 0)] 70 [some (.ref (79)), none, some (.int (x2)), some (.int (v24)), some (.int (v26)), none] [.ref (79)] u27 [] (by decide +kernel) (by refine qt_istore (L' := [some (.ref (79)), none, some (.int (x2)), some (.int (v24)), some (.int (v26)), none]) rfl ?_; refine qt_aload_n (r := 79) rfl ?_; exact qt_z rfl rfl rfl rfl rfl) trivial ?_
      refine s_callV (a := 0) (a' := 0) (As := []) (id := 79) (st := []) kX12_word l_12_231 (by decide +kernel) (q_id_of rfl) rfl (Nat.le_of_ble_eq_true rfl) (s_mono h (s_I_of (fun v28 u29 h => ?_)) (fun _ _ h9 => h9))
      show s_Ex (d + 1) 0 mX12_coast 73 [some (.ref (79)), none, some (.int (x2)), some (.int (v24)), some (.int (v26)), none] [.int (v28)] u29 Q X
      refine s_blk [(.istore 5, 2, 0, 0), (.iload_n 3, 1, 0, 0)] 76 [some (.ref (79)), none, some (.int (x2)), some (.int (v24)), some (.int (v26)), some (.int (v28))] [.int (v24)] u29 [] (by decide +kernel) (by refine qt_istore (L' := [some (.ref (79)), none, some (.int (x2)), some (.int (v24)), some (.int (v26)), some (.int (v28))]) rfl ?_; refine qt_iload_n (x := v24) rfl ?_; exact qt_z rfl rfl rfl rfl rfl) trivial ?_
      refine s_if (cd := .ne) (off := 85) 161 (by decide +kernel) (by decide) (fun hc => ?_) (fun hc => ?_)
      · replace h := h.1 hc
        exact h
      · replace h := h.2 hc
        refine s_blk [(.iload 4, 2, 0, 0)] 81 [some (.ref (79)), none, some (.int (x2)), some (.int (v24)), some (.int (v26)), some (.int (v28))] [.int (v26)] u29 [] (by decide +kernel) (by refine qt_iload (x := v26) rfl ?_; exact qt_z rfl rfl rfl rfl rfl) trivial ?_
        refine s_if (cd := .ne) (off := 80) 161 (by decide +kernel) (by decide) (fun hc => ?_) (fun hc => ?_)
        · replace h := h.1 hc
          exact h
        · replace h := h.2 hc
          refine s_blk [(.iload 5, 2, 0, 0), (.ldc 252, 2, 1, 29)] 88 [some (.ref (79)), none, some (.int (x2)), some (.int (v24)), some (.int (v26)), some (.int (v28))] [.retAddr (29), .int (v28)] u29 [] (by decide +kernel) (by refine qt_iload (x := v28) rfl ?_; refine qt_ldcS ?_; exact qt_z rfl rfl rfl rfl rfl) trivial ?_
          refine s_callS (a := 0) (a' := 0) (As := [.retAddr (29)]) (st := [.int (v28)]) kX12_of l_12_236 (by decide +kernel) rfl (Nat.le_of_ble_eq_true rfl) (s_mono h (s_I_of (fun v30 u31 h => ?_)) (fun _ _ h9 => h9))
          show s_Ex (d + 1) 0 mX12_coast 91 [some (.ref (79)), none, some (.int (x2)), some (.int (v24)), some (.int (v26)), some (.int (v28))] [.int (v30), .int (v28)] u31 Q X
          refine s_icmp (cd := .eq) (off := 70) 161 (by decide +kernel) (by decide) (fun hc => ?_) (fun hc => ?_)
          · replace h := h.1 hc
            exact h
          · replace h := h.2 hc
            refine s_blk [(.iload 5, 2, 0, 0), (.ldc_w 260, 3, 1, 30)] 99 [some (.ref (79)), none, some (.int (x2)), some (.int (v24)), some (.int (v26)), some (.int (v28))] [.retAddr (30), .int (v28)] u31 [] (by decide +kernel) (by refine qt_iload (x := v28) rfl ?_; refine qt_ldcSW ?_; exact qt_z rfl rfl rfl rfl rfl) trivial ?_
            refine s_callS (a := 0) (a' := 0) (As := [.retAddr (30)]) (st := [.int (v28)]) kX12_of l_12_236 (by decide +kernel) rfl (Nat.le_of_ble_eq_true rfl) (s_mono h (s_I_of (fun v32 u33 h => ?_)) (fun _ _ h9 => h9))
            show s_Ex (d + 1) 0 mX12_coast 102 [some (.ref (79)), none, some (.int (x2)), some (.int (v24)), some (.int (v26)), some (.int (v28))] [.int (v32), .int (v28)] u33 Q X
            refine s_icmp (cd := .eq) (off := 59) 161 (by decide +kernel) (by decide) (fun hc => ?_) (fun hc => ?_)
            · replace h := h.1 hc
              exact h
            · replace h := h.2 hc
              refine s_blk [(.iload 5, 2, 0, 0), (.ldc_w 261, 3, 1, 31)] 110 [some (.ref (79)), none, some (.int (x2)), some (.int (v24)), some (.int (v26)), some (.int (v28))] [.retAddr (31), .int (v28)] u33 [] (by decide +kernel) (by refine qt_iload (x := v28) rfl ?_; refine qt_ldcSW ?_; exact qt_z rfl rfl rfl rfl rfl) trivial ?_
              refine s_callS (a := 0) (a' := 0) (As := [.retAddr (31)]) (st := [.int (v28)]) kX12_of l_12_236 (by decide +kernel) rfl (Nat.le_of_ble_eq_true rfl) (s_mono h (s_I_of (fun v34 u35 h => ?_)) (fun _ _ h9 => h9))
              show s_Ex (d + 1) 0 mX12_coast 113 [some (.ref (79)), none, some (.int (x2)), some (.int (v24)), some (.int (v26)), some (.int (v28))] [.int (v34), .int (v28)] u35 Q X
              refine s_icmp (cd := .eq) (off := 48) 161 (by decide +kernel) (by decide) (fun hc => ?_) (fun hc => ?_)
              · replace h := h.1 hc
                exact h
              · replace h := h.2 hc
                refine s_blk [(.iload 5, 2, 0, 0), (.ldc_w 262, 3, 1, 32)] 121 [some (.ref (79)), none, some (.int (x2)), some (.int (v24)), some (.int (v26)), some (.int (v28))] [.retAddr (32), .int (v28)] u35 [] (by decide +kernel) (by refine qt_iload (x := v28) rfl ?_; refine qt_ldcSW ?_; exact qt_z rfl rfl rfl rfl rfl) trivial ?_
                refine s_callS (a := 0) (a' := 0) (As := [.retAddr (32)]) (st := [.int (v28)]) kX12_of l_12_236 (by decide +kernel) rfl (Nat.le_of_ble_eq_true rfl) (s_mono h (s_I_of (fun v36 u37 h => ?_)) (fun _ _ h9 => h9))
                show s_Ex (d + 1) 0 mX12_coast 124 [some (.ref (79)), none, some (.int (x2)), some (.int (v24)), some (.int (v26)), some (.int (v28))] [.int (v36), .int (v28)] u37 Q X
                refine s_icmp (cd := .eq) (off := 37) 161 (by decide +kernel) (by decide) (fun hc => ?_) (fun hc => ?_)
                · replace h := h.1 hc
                  exact h
                · replace h := h.2 hc
                  refine s_blk [(.iload 5, 2, 0, 0), (.ldc_w 263, 3, 1, 33)] 132 [some (.ref (79)), none, some (.int (x2)), some (.int (v24)), some (.int (v26)), some (.int (v28))] [.retAddr (33), .int (v28)] u37 [] (by decide +kernel) (by refine qt_iload (x := v28) rfl ?_; refine qt_ldcSW ?_; exact qt_z rfl rfl rfl rfl rfl) trivial ?_
                  refine s_callS (a := 0) (a' := 0) (As := [.retAddr (33)]) (st := [.int (v28)]) kX12_of l_12_236 (by decide +kernel) rfl (Nat.le_of_ble_eq_true rfl) (s_mono h (s_I_of (fun v38 u39 h => ?_)) (fun _ _ h9 => h9))
                  show s_Ex (d + 1) 0 mX12_coast 135 [some (.ref (79)), none, some (.int (x2)), some (.int (v24)), some (.int (v26)), some (.int (v28))] [.int (v38), .int (v28)] u39 Q X
                  refine s_icmp (cd := .eq) (off := 26) 161 (by decide +kernel) (by decide) (fun hc => ?_) (fun hc => ?_)
                  · replace h := h.1 hc
                    exact h
                  · replace h := h.2 hc
                    refine s_blk [(.iload 5, 2, 0, 0), (.ldc_w 287, 3, 1, 34)] 143 [some (.ref (79)), none, some (.int (x2)), some (.int (v24)), some (.int (v26)), some (.int (v28))] [.retAddr (34), .int (v28)] u39 [] (by decide +kernel) (by refine qt_iload (x := v28) rfl ?_; refine qt_ldcSW ?_; exact qt_z rfl rfl rfl rfl rfl) trivial ?_
                    refine s_callS (a := 0) (a' := 0) (As := [.retAddr (34)]) (st := [.int (v28)]) kX12_of l_12_236 (by decide +kernel) rfl (Nat.le_of_ble_eq_true rfl) (s_mono h (s_I_of (fun v40 u41 h => ?_)) (fun _ _ h9 => h9))
                    show s_Ex (d + 1) 0 mX12_coast 146 [some (.ref (79)), none, some (.int (x2)), some (.int (v24)), some (.int (v26)), some (.int (v28))] [.int (v40), .int (v28)] u41 Q X
                    refine s_icmp (cd := .eq) (off := 15) 161 (by decide +kernel) (by decide) (fun hc => ?_) (fun hc => ?_)
                    · replace h := h.1 hc
                      exact h
                    · replace h := h.2 hc
                      refine s_blk [(.aload_n 0, 1, 0, 0), (.iconst 1, 1, 0, 0), (.aload_n 0, 1, 0, 0), (.getfield 141, 3, 12, 4)] 155 [some (.ref (79)), none, some (.int (x2)), some (.int (v24)), some (.int (v26)), some (.int (v28))] [.int (u41.1 79 4), .int (1), .ref (79)] u41 [q_id 116 12 79] (by decide +kernel) (by refine qt_aload_n (r := 79) rfl ?_; refine qt_iconst qc_1 ?_; refine qt_aload_n (r := 79) rfl ?_; refine qt_getI rfl rfl ?_; exact qt_z rfl rfl rfl rfl rfl) (q_id_of rfl) ?_
                      refine s_callV (a := 0) (a' := 0) (As := [.int (1), .int (u41.1 79 4)]) (id := 79) (st := []) kX12_wrong l_12_171 (by decide +kernel) (q_id_of rfl) rfl (Nat.le_of_ble_eq_true rfl) (s_mono h (s_V_of (fun u43 h => ?_)) (fun _ _ h9 => h9))
                      show s_Ex (d + 1) 0 mX12_coast 158 [some (.ref (79)), none, some (.int (x2)), some (.int (v24)), some (.int (v26)), some (.int (v28))] [] u43 Q X
                      refine s_blk [(.goto 84, 3, 242, 0)] 242 [some (.ref (79)), none, some (.int (x2)), some (.int (v24)), some (.int (v26)), some (.int (v28))] [] u43 [] (by decide +kernel) (by refine qt_goto ?_; exact qt_z rfl rfl rfl rfl rfl) trivial ?_
                      exact h
theorem xX12_coast_329 {d : Nat}  {w : q_Sm} {Q : s_Po} {X : s_Xo} (h : vX12_coast_329 d  w Q X) : s_Ex (d + 1) 0 mX12_coast 329 [some (.ref (79)), none, none, none, none, none] [] w Q X := by
  unfold vX12_coast_329 at h
  refine s_blk [(.aload_n 0, 1, 0, 0), (.aload_n 0, 1, 0, 0), (.getfield 181, 3, 12, 25)] 334 [some (.ref (79)), none, none, none, none, none] [.int (w.1 79 25), .ref (79)] w [q_id 116 12 79] (by decide +kernel) (by refine qt_aload_n (r := 79) rfl ?_; refine qt_aload_n (r := 79) rfl ?_; refine qt_getI rfl rfl ?_; exact qt_z rfl rfl rfl rfl rfl) (q_id_of rfl) ?_
  refine s_callV (a := 0) (a' := 0) (As := [.int (w.1 79 25)]) (id := 79) (st := []) kX12_result l_12_300 (by decide +kernel) (q_id_of rfl) rfl (Nat.le_of_ble_eq_true rfl) (s_mono h (s_I_of (fun v44 u45 h => ?_)) (fun _ _ h9 => h9))
  show s_Ex (d + 1) 0 mX12_coast 337 [some (.ref (79)), none, none, none, none, none] [.int (v44)] u45 Q X
  refine s_blk [(.istore_n 3, 1, 0, 0), (.aload_n 0, 1, 0, 0), (.getfield 135, 3, 12, 5), (.iconst (-1), 1, 0, 0)] 343 [some (.ref (79)), none, none, some (.int (v44)), none, none] [.int (-1), .int (u45.1 79 5)] u45 [q_id 116 12 79] (by decide +kernel) (by refine qt_istore_n (L' := [some (.ref (79)), none, none, some (.int (v44)), none, none]) rfl ?_; refine qt_aload_n (r := 79) rfl ?_; refine qt_getI rfl rfl ?_; refine qt_iconst qc_m1 ?_; exact qt_z rfl rfl rfl rfl rfl) (q_id_of rfl) ?_
  refine s_icmp (cd := .ne) (off := 7) 350 (by decide +kernel) (by decide) (fun hc => ?_) (fun hc => ?_)
  · replace h := h.1 hc
    refine s_blk [(.nop, 0, 0, 0)] 350 [none, none, none, some (.int (v44)), none, none] [] u45 [] (by decide +kernel) (by refine qt_nop (L' := [none, none, none, some (.int (v44)), none, none]) rfl ?_; exact qt_z rfl rfl rfl rfl rfl) trivial ?_
    exact h
  · replace h := h.2 hc
    refine s_blk [(.aload_n 0, 1, 0, 0)] 347 [some (.ref (79)), none, none, some (.int (v44)), none, none] [.ref (79)] u45 [] (by decide +kernel) (by refine qt_aload_n (r := 79) rfl ?_; exact qt_z rfl rfl rfl rfl rfl) trivial ?_
    refine s_callV (a := 0) (a' := 0) (As := []) (id := 79) (st := []) kX12_sets l_12_129 (by decide +kernel) (q_id_of rfl) rfl (Nat.le_of_ble_eq_true rfl) (s_mono h (s_V_of (fun u47 h => ?_)) (fun _ _ h9 => h9))
    show s_Ex (d + 1) 0 mX12_coast 350 [some (.ref (79)), none, none, some (.int (v44)), none, none] [] u47 Q X
    refine s_blk [(.nop, 0, 0, 0)] 350 [none, none, none, some (.int (v44)), none, none] [] u47 [] (by decide +kernel) (by refine qt_nop (L' := [none, none, none, some (.int (v44)), none, none]) rfl ?_; exact qt_z rfl rfl rfl rfl rfl) trivial ?_
    exact h
theorem xX12_coast_161 {d : Nat} {x2 : Int32} {x3 : Int32} {x4 : Int32} {x5 : Int32} {w : q_Sm} {Q : s_Po} {X : s_Xo} (h : vX12_coast_161 d x2 x3 x4 x5 w Q X) : s_Ex (d + 1) 0 mX12_coast 161 [some (.ref (79)), none, some (.int (x2)), some (.int (x3)), some (.int (x4)), some (.int (x5))] [] w Q X := by
  unfold vX12_coast_161 at h
  refine s_blk [(.iload_n 2, 1, 0, 0), (.bipush 60, 2, 0, 0)] 164 [some (.ref (79)), none, some (.int (x2)), some (.int (x3)), some (.int (x4)), some (.int (x5))] [.int (60), .int (x2)] w [] (by decide +kernel) (by refine qt_iload_n (x := x2) rfl ?_; refine qt_bipush qb_60 ?_; exact qt_z rfl rfl rfl rfl rfl) trivial ?_
  refine s_icmp (cd := .eq) (off := 69) 233 (by decide +kernel) (by decide) (fun hc => ?_) (fun hc => ?_)
  · replace h := h.1 hc
    exact h
  · replace h := h.2 hc
    refine s_blk [(.iload_n 3, 1, 0, 0)] 168 [some (.ref (79)), none, some (.int (x2)), some (.int (x3)), some (.int (x4)), some (.int (x5))] [.int (x3)] w [] (by decide +kernel) (by refine qt_iload_n (x := x3) rfl ?_; exact qt_z rfl rfl rfl rfl rfl) trivial ?_
    refine s_if (cd := .eq) (off := 12) 180 (by decide +kernel) (by decide) (fun hc => ?_) (fun hc => ?_)
    · replace h := h.1 hc
      exact h
    · replace h := h.2 hc
      refine s_blk [(.aload_n 0, 1, 0, 0), (.getfield 178, 3, 12, 24), (.bipush 6, 2, 0, 0)] 177 [some (.ref (79)), none, some (.int (x2)), some (.int (x3)), some (.int (x4)), some (.int (x5))] [.int (6), .int (w.1 79 24)] w [q_id 116 12 79] (by decide +kernel) (by refine qt_aload_n (r := 79) rfl ?_; refine qt_getI rfl rfl ?_; refine qt_bipush qb_6 ?_; exact qt_z rfl rfl rfl rfl rfl) (q_id_of rfl) ?_
      refine s_icmp (cd := .eq) (off := 56) 233 (by decide +kernel) (by decide) (fun hc => ?_) (fun hc => ?_)
      · replace h := h.1 hc
        exact h
      · replace h := h.2 hc
        exact h
theorem xX12_coast_242 {d : Nat} {x2 : Int32} {x3 : Int32} {x4 : Int32} {x5 : Int32} {w : q_Sm} {Q : s_Po} {X : s_Xo} (h : vX12_coast_242 d x2 x3 x4 x5 w Q X) : s_Ex (d + 1) 0 mX12_coast 242 [some (.ref (79)), none, some (.int (x2)), some (.int (x3)), some (.int (x4)), some (.int (x5))] [] w Q X := by
  unfold vX12_coast_242 at h
  refine s_blk [(.aload_n 0, 1, 0, 0)] 243 [some (.ref (79)), none, some (.int (x2)), some (.int (x3)), some (.int (x4)), some (.int (x5))] [.ref (79)] w [] (by decide +kernel) (by refine qt_aload_n (r := 79) rfl ?_; exact qt_z rfl rfl rfl rfl rfl) trivial ?_
  refine s_callV (a := 0) (a' := 0) (As := []) (id := 79) (st := []) kX12_fine l_12_164 (by decide +kernel) (q_id_of rfl) rfl (Nat.le_of_ble_eq_true rfl) (s_mono h (s_I_of (fun v48 u49 h => ?_)) (fun _ _ h9 => h9))
  show s_Ex (d + 1) 0 mX12_coast 246 [some (.ref (79)), none, some (.int (x2)), some (.int (x3)), some (.int (x4)), some (.int (x5))] [.int (v48)] u49 Q X
  refine s_if (cd := .ne) (off := 6) 252 (by decide +kernel) (by decide) (fun hc => ?_) (fun hc => ?_)
  · replace h := h.1 hc
    refine s_blk [(.iload_n 3, 1, 0, 0)] 253 [some (.ref (79)), none, some (.int (x2)), some (.int (x3)), some (.int (x4)), some (.int (x5))] [.int (x3)] u49 [] (by decide +kernel) (by refine qt_iload_n (x := x3) rfl ?_; exact qt_z rfl rfl rfl rfl rfl) trivial ?_
    refine s_if (cd := .ne) (off := 8) 261 (by decide +kernel) (by decide) (fun hc => ?_) (fun hc => ?_)
    · replace h := h.1 hc
      exact h
    · replace h := h.2 hc
      refine s_blk [(.iload 4, 2, 0, 0)] 258 [some (.ref (79)), none, some (.int (x2)), some (.int (x3)), some (.int (x4)), some (.int (x5))] [.int (x4)] u49 [] (by decide +kernel) (by refine qt_iload (x := x4) rfl ?_; exact qt_z rfl rfl rfl rfl rfl) trivial ?_
      refine s_if (cd := .eq) (off := 26) 284 (by decide +kernel) (by decide) (fun hc => ?_) (fun hc => ?_)
      · replace h := h.1 hc
        refine s_blk [(.aload_n 0, 1, 0, 0)] 285 [some (.ref (79)), none, some (.int (x2)), some (.int (x3)), some (.int (x4)), some (.int (x5))] [.ref (79)] u49 [] (by decide +kernel) (by refine qt_aload_n (r := 79) rfl ?_; exact qt_z rfl rfl rfl rfl rfl) trivial ?_
        refine s_callV (a := 0) (a' := 0) (As := []) (id := 79) (st := []) kX12_pass l_12_249 (by decide +kernel) (q_id_of rfl) rfl (Nat.le_of_ble_eq_true rfl) (s_mono h (s_V_of (fun u51 h => ?_)) (fun _ _ h9 => h9))
        show s_Ex (d + 1) 0 mX12_coast 288 [some (.ref (79)), none, some (.int (x2)), some (.int (x3)), some (.int (x4)), some (.int (x5))] [] u51 Q X
        exact h
      · replace h := h.2 hc
        exact h
  · replace h := h.2 hc
    refine s_blk [(.goto 80, 3, 329, 0), (.nop, 0, 2, 0), (.nop, 0, 3, 0), (.nop, 0, 4, 0), (.nop, 0, 5, 0)] 329 [some (.ref (79)), none, none, none, none, none] [] u49 [] (by decide +kernel) (by refine qt_goto ?_; refine qt_nop (L' := [some (.ref (79)), none, none, some (.int (x3)), some (.int (x4)), some (.int (x5))]) rfl ?_; refine qt_nop (L' := [some (.ref (79)), none, none, none, some (.int (x4)), some (.int (x5))]) rfl ?_; refine qt_nop (L' := [some (.ref (79)), none, none, none, none, some (.int (x5))]) rfl ?_; refine qt_nop (L' := [some (.ref (79)), none, none, none, none, none]) rfl ?_; exact qt_z rfl rfl rfl rfl rfl) trivial ?_
    exact h
theorem xX12_coast_350 {d : Nat} {x3 : Int32} {w : q_Sm} {Q : s_Po} {X : s_Xo} (h : vX12_coast_350 d x3 w Q X) : s_Ex (d + 1) 0 mX12_coast 350 [none, none, none, some (.int (x3)), none, none] [] w Q X := by
  unfold vX12_coast_350 at h
  refine s_blk [(.iload_n 3, 1, 0, 0)] 351 [none, none, none, some (.int (x3)), none, none] [.int (x3)] w [] (by decide +kernel) (by refine qt_iload_n (x := x3) rfl ?_; exact qt_z rfl rfl rfl rfl rfl) trivial ?_
  exact s_retI .int (by decide +kernel) rfl rfl h
theorem xX12_coast_233 {d : Nat} {x2 : Int32} {x3 : Int32} {x4 : Int32} {x5 : Int32} {w : q_Sm} {Q : s_Po} {X : s_Xo} (h : vX12_coast_233 d x2 x3 x4 x5 w Q X) : s_Ex (d + 1) 0 mX12_coast 233 [some (.ref (79)), none, some (.int (x2)), some (.int (x3)), some (.int (x4)), some (.int (x5))] [] w Q X := by
  unfold vX12_coast_233 at h
  refine s_blk [(.aload_n 0, 1, 0, 0), (.iconst 3, 1, 0, 0), (.aload_n 0, 1, 0, 0), (.getfield 141, 3, 12, 4)] 239 [some (.ref (79)), none, some (.int (x2)), some (.int (x3)), some (.int (x4)), some (.int (x5))] [.int (w.1 79 4), .int (3), .ref (79)] w [q_id 116 12 79] (by decide +kernel) (by refine qt_aload_n (r := 79) rfl ?_; refine qt_iconst qc_3 ?_; refine qt_aload_n (r := 79) rfl ?_; refine qt_getI rfl rfl ?_; exact qt_z rfl rfl rfl rfl rfl) (q_id_of rfl) ?_
  refine s_callV (a := 0) (a' := 0) (As := [.int (3), .int (w.1 79 4)]) (id := 79) (st := []) kX12_wrong l_12_171 (by decide +kernel) (q_id_of rfl) rfl (Nat.le_of_ble_eq_true rfl) (s_mono h (s_V_of (fun u53 h => ?_)) (fun _ _ h9 => h9))
  show s_Ex (d + 1) 0 mX12_coast 242 [some (.ref (79)), none, some (.int (x2)), some (.int (x3)), some (.int (x4)), some (.int (x5))] [] u53 Q X
  exact h
theorem xX12_coast_180 {d : Nat} {x2 : Int32} {x3 : Int32} {x4 : Int32} {x5 : Int32} {w : q_Sm} {Q : s_Po} {X : s_Xo} (h : vX12_coast_180 d x2 x3 x4 x5 w Q X) : s_Ex (d + 1) 0 mX12_coast 180 [some (.ref (79)), none, some (.int (x2)), some (.int (x3)), some (.int (x4)), some (.int (x5))] [] w Q X := by
  unfold vX12_coast_180 at h
  refine s_blk [(.iload 4, 2, 0, 0)] 182 [some (.ref (79)), none, some (.int (x2)), some (.int (x3)), some (.int (x4)), some (.int (x5))] [.int (x4)] w [] (by decide +kernel) (by refine qt_iload (x := x4) rfl ?_; exact qt_z rfl rfl rfl rfl rfl) trivial ?_
  refine s_if (cd := .eq) (off := 12) 194 (by decide +kernel) (by decide) (fun hc => ?_) (fun hc => ?_)
  · replace h := h.1 hc
    exact h
  · replace h := h.2 hc
    refine s_blk [(.aload_n 0, 1, 0, 0), (.getfield 187, 3, 12, 27), (.bipush 6, 2, 0, 0)] 191 [some (.ref (79)), none, some (.int (x2)), some (.int (x3)), some (.int (x4)), some (.int (x5))] [.int (6), .int (w.1 79 27)] w [q_id 116 12 79] (by decide +kernel) (by refine qt_aload_n (r := 79) rfl ?_; refine qt_getI rfl rfl ?_; refine qt_bipush qb_6 ?_; exact qt_z rfl rfl rfl rfl rfl) (q_id_of rfl) ?_
    refine s_icmp (cd := .eq) (off := 42) 233 (by decide +kernel) (by decide) (fun hc => ?_) (fun hc => ?_)
    · replace h := h.1 hc
      exact h
    · replace h := h.2 hc
      exact h
theorem xX12_coast_261 {d : Nat} {x2 : Int32} {x3 : Int32} {x4 : Int32} {x5 : Int32} {w : q_Sm} {Q : s_Po} {X : s_Xo} (h : vX12_coast_261 d x2 x3 x4 x5 w Q X) : s_Ex (d + 1) 0 mX12_coast 261 [some (.ref (79)), none, some (.int (x2)), some (.int (x3)), some (.int (x4)), some (.int (x5))] [] w Q X := by
  unfold vX12_coast_261 at h
  refine s_blk [(.aload_n 0, 1, 0, 0), (.dup, 1, 0, 0), (.getfield 141, 3, 12, 4), (.iload_n 3, 1, 0, 0)] 267 [some (.ref (79)), none, some (.int (x2)), some (.int (x3)), some (.int (x4)), some (.int (x5))] [.int (x3), .int (w.1 79 4), .ref (79)] w [q_id 116 12 79] (by decide +kernel) (by refine qt_aload_n (r := 79) rfl ?_; refine qt_dupR ?_; refine qt_getI rfl rfl ?_; refine qt_iload_n (x := x3) rfl ?_; exact qt_z rfl rfl rfl rfl rfl) (q_id_of rfl) ?_
  refine s_if (cd := .eq) (off := 8) 275 (by decide +kernel) (by decide) (fun hc => ?_) (fun hc => ?_)
  · replace h := h.1 hc
    replace h := h _ rfl
    refine s_blk [(.bipush 7, 2, 0, 0), (.iadd, 1, 0, 0), (.putfield 141, 3, 12, 4), (.goto 7, 3, 288, 0)] 288 [some (.ref (79)), none, some (.int (x2)), some (.int (x3)), some (.int (x4)), some (.int (x5))] [] (q_wI w 79 4 ((w.1 79 4) + 7)) [q_id 116 12 79] (by decide +kernel) (by refine qt_bipush qb_7 ?_; refine qt_iadd ?_; refine qt_putI rfl ?_; refine qt_goto ?_; exact qt_z rfl rfl rfl rfl rfl) (q_id_of rfl) ?_
    exact h
  · replace h := h.2 hc
    replace h := h _ rfl
    refine s_blk [(.bipush 8, 2, 0, 0), (.goto 5, 3, 277, 0), (.iadd, 1, 0, 0), (.putfield 141, 3, 12, 4), (.goto 7, 3, 288, 0)] 288 [some (.ref (79)), none, some (.int (x2)), some (.int (x3)), some (.int (x4)), some (.int (x5))] [] (q_wI w 79 4 ((w.1 79 4) + 8)) [q_id 116 12 79] (by decide +kernel) (by refine qt_bipush qb_8 ?_; refine qt_goto ?_; refine qt_iadd ?_; refine qt_putI rfl ?_; refine qt_goto ?_; exact qt_z rfl rfl rfl rfl rfl) (q_id_of rfl) ?_
    exact h
theorem xX12_coast_288 {d : Nat} {x2 : Int32} {x3 : Int32} {x4 : Int32} {x5 : Int32} {w : q_Sm} {Q : s_Po} {X : s_Xo} (h : vX12_coast_288 d x2 x3 x4 x5 w Q X) : s_Ex (d + 1) 0 mX12_coast 288 [some (.ref (79)), none, some (.int (x2)), some (.int (x3)), some (.int (x4)), some (.int (x5))] [] w Q X := by
  unfold vX12_coast_288 at h
  refine s_blk [(.iload_n 3, 1, 0, 0)] 289 [some (.ref (79)), none, some (.int (x2)), some (.int (x3)), some (.int (x4)), some (.int (x5))] [.int (x3)] w [] (by decide +kernel) (by refine qt_iload_n (x := x3) rfl ?_; exact qt_z rfl rfl rfl rfl rfl) trivial ?_
  refine s_if (cd := .eq) (off := 10) 299 (by decide +kernel) (by decide) (fun hc => ?_) (fun hc => ?_)
  · replace h := h.1 hc
    refine s_blk [(.iload 4, 2, 0, 0)] 301 [some (.ref (79)), none, some (.int (x2)), some (.int (x3)), some (.int (x4)), some (.int (x5))] [.int (x4)] w [] (by decide +kernel) (by refine qt_iload (x := x4) rfl ?_; exact qt_z rfl rfl rfl rfl rfl) trivial ?_
    refine s_if (cd := .eq) (off := 10) 311 (by decide +kernel) (by decide) (fun hc => ?_) (fun hc => ?_)
    · replace h := h.1 hc
      refine s_blk [(.aload_n 0, 1, 0, 0), (.iload 5, 2, 0, 0)] 314 [some (.ref (79)), none, some (.int (x2)), some (.int (x3)), some (.int (x4)), some (.int (x5))] [.int (x5), .ref (79)] w [] (by decide +kernel) (by refine qt_aload_n (r := 79) rfl ?_; refine qt_iload (x := x5) rfl ?_; exact qt_z rfl rfl rfl rfl rfl) trivial ?_
      refine s_callV (a := 0) (a' := 0) (As := [.int (x5)]) (id := 79) (st := []) kX12_readRow l_12_294 (by decide +kernel) (q_id_of rfl) rfl (Nat.le_of_ble_eq_true rfl) (s_mono h (s_V_of (fun u57 h => ?_)) (fun _ _ h9 => h9))
      show s_Ex (d + 1) 0 mX12_coast 317 [some (.ref (79)), none, some (.int (x2)), some (.int (x3)), some (.int (x4)), some (.int (x5))] [] u57 Q X
      refine s_blk [(.nop, 0, 3, 0), (.nop, 0, 4, 0), (.nop, 0, 5, 0)] 317 [some (.ref (79)), none, some (.int (x2)), none, none, none] [] u57 [] (by decide +kernel) (by refine qt_nop (L' := [some (.ref (79)), none, some (.int (x2)), none, some (.int (x4)), some (.int (x5))]) rfl ?_; refine qt_nop (L' := [some (.ref (79)), none, some (.int (x2)), none, none, some (.int (x5))]) rfl ?_; refine qt_nop (L' := [some (.ref (79)), none, some (.int (x2)), none, none, none]) rfl ?_; exact qt_z rfl rfl rfl rfl rfl) trivial ?_
      exact h
    · replace h := h.2 hc
      refine s_blk [(.aload_n 0, 1, 0, 0)] 305 [some (.ref (79)), none, some (.int (x2)), some (.int (x3)), some (.int (x4)), some (.int (x5))] [.ref (79)] w [] (by decide +kernel) (by refine qt_aload_n (r := 79) rfl ?_; exact qt_z rfl rfl rfl rfl rfl) trivial ?_
      refine s_callV (a := 0) (a' := 0) (As := []) (id := 79) (st := []) kX12_readWedding l_12_291 (by decide +kernel) (q_id_of rfl) rfl (Nat.le_of_ble_eq_true rfl) (s_mono h (s_V_of (fun u59 h => ?_)) (fun _ _ h9 => h9))
      show s_Ex (d + 1) 0 mX12_coast 308 [some (.ref (79)), none, some (.int (x2)), some (.int (x3)), some (.int (x4)), some (.int (x5))] [] u59 Q X
      refine s_blk [(.goto 9, 3, 317, 0), (.nop, 0, 3, 0), (.nop, 0, 4, 0), (.nop, 0, 5, 0)] 317 [some (.ref (79)), none, some (.int (x2)), none, none, none] [] u59 [] (by decide +kernel) (by refine qt_goto ?_; refine qt_nop (L' := [some (.ref (79)), none, some (.int (x2)), none, some (.int (x4)), some (.int (x5))]) rfl ?_; refine qt_nop (L' := [some (.ref (79)), none, some (.int (x2)), none, none, some (.int (x5))]) rfl ?_; refine qt_nop (L' := [some (.ref (79)), none, some (.int (x2)), none, none, none]) rfl ?_; exact qt_z rfl rfl rfl rfl rfl) trivial ?_
      exact h
  · replace h := h.2 hc
    refine s_blk [(.aload_n 0, 1, 0, 0)] 293 [some (.ref (79)), none, some (.int (x2)), some (.int (x3)), some (.int (x4)), some (.int (x5))] [.ref (79)] w [] (by decide +kernel) (by refine qt_aload_n (r := 79) rfl ?_; exact qt_z rfl rfl rfl rfl rfl) trivial ?_
    refine s_callV (a := 0) (a' := 0) (As := []) (id := 79) (st := []) kX12_readCreditor l_12_288 (by decide +kernel) (q_id_of rfl) rfl (Nat.le_of_ble_eq_true rfl) (s_mono h (s_V_of (fun u61 h => ?_)) (fun _ _ h9 => h9))
    show s_Ex (d + 1) 0 mX12_coast 296 [some (.ref (79)), none, some (.int (x2)), some (.int (x3)), some (.int (x4)), some (.int (x5))] [] u61 Q X
    refine s_blk [(.goto 21, 3, 317, 0), (.nop, 0, 3, 0), (.nop, 0, 4, 0), (.nop, 0, 5, 0)] 317 [some (.ref (79)), none, some (.int (x2)), none, none, none] [] u61 [] (by decide +kernel) (by refine qt_goto ?_; refine qt_nop (L' := [some (.ref (79)), none, some (.int (x2)), none, some (.int (x4)), some (.int (x5))]) rfl ?_; refine qt_nop (L' := [some (.ref (79)), none, some (.int (x2)), none, none, some (.int (x5))]) rfl ?_; refine qt_nop (L' := [some (.ref (79)), none, some (.int (x2)), none, none, none]) rfl ?_; exact qt_z rfl rfl rfl rfl rfl) trivial ?_
    exact h
theorem xX12_coast_194 {d : Nat} {x2 : Int32} {x3 : Int32} {x4 : Int32} {x5 : Int32} {w : q_Sm} {Q : s_Po} {X : s_Xo} (h : vX12_coast_194 d x2 x3 x4 x5 w Q X) : s_Ex (d + 1) 0 mX12_coast 194 [some (.ref (79)), none, some (.int (x2)), some (.int (x3)), some (.int (x4)), some (.int (x5))] [] w Q X := by
  unfold vX12_coast_194 at h
  refine s_blk [(.iload 5, 2, 0, 0), (.ldc 252, 2, 1, 29)] 198 [some (.ref (79)), none, some (.int (x2)), some (.int (x3)), some (.int (x4)), some (.int (x5))] [.retAddr (29), .int (x5)] w [] (by decide +kernel) (by refine qt_iload (x := x5) rfl ?_; refine qt_ldcS ?_; exact qt_z rfl rfl rfl rfl rfl) trivial ?_
  refine s_callS (a := 0) (a' := 0) (As := [.retAddr (29)]) (st := [.int (x5)]) kX12_of l_12_236 (by decide +kernel) rfl (Nat.le_of_ble_eq_true rfl) (s_mono h (s_I_of (fun v62 u63 h => ?_)) (fun _ _ h9 => h9))
  show s_Ex (d + 1) 0 mX12_coast 201 [some (.ref (79)), none, some (.int (x2)), some (.int (x3)), some (.int (x4)), some (.int (x5))] [.int (v62), .int (x5)] u63 Q X
  refine s_icmp (cd := .ne) (off := 12) 213 (by decide +kernel) (by decide) (fun hc => ?_) (fun hc => ?_)
  · replace h := h.1 hc
    exact h
  · replace h := h.2 hc
    refine s_blk [(.aload_n 0, 1, 0, 0), (.getfield 181, 3, 12, 25), (.bipush 10, 2, 0, 0)] 210 [some (.ref (79)), none, some (.int (x2)), some (.int (x3)), some (.int (x4)), some (.int (x5))] [.int (10), .int (u63.1 79 25)] u63 [q_id 116 12 79] (by decide +kernel) (by refine qt_aload_n (r := 79) rfl ?_; refine qt_getI rfl rfl ?_; refine qt_bipush qb_10 ?_; exact qt_z rfl rfl rfl rfl rfl) (q_id_of rfl) ?_
    refine s_icmp (cd := .eq) (off := 23) 233 (by decide +kernel) (by decide) (fun hc => ?_) (fun hc => ?_)
    · replace h := h.1 hc
      exact h
    · replace h := h.2 hc
      exact h
theorem xX12_coast_317 {d : Nat} {x2 : Int32} {w : q_Sm} {Q : s_Po} {X : s_Xo} (h : vX12_coast_317 d x2 w Q X) : s_Ex (d + 1) 0 mX12_coast 317 [some (.ref (79)), none, some (.int (x2)), none, none, none] [] w Q X := by
  unfold vX12_coast_317 at h
  refine s_blk [(.aload_n 0, 1, 0, 0), (.bipush 59, 2, 0, 0)] 320 [some (.ref (79)), none, some (.int (x2)), none, none, none] [.int (59), .ref (79)] w [] (by decide +kernel) (by refine qt_aload_n (r := 79) rfl ?_; refine qt_bipush qb_59 ?_; exact qt_z rfl rfl rfl rfl rfl) trivial ?_
  refine s_callV (a := 0) (a' := 0) (As := [.int (59)]) (id := 79) (st := []) kX12_sign l_12_297 (by decide +kernel) (q_id_of rfl) rfl (Nat.le_of_ble_eq_true rfl) (s_mono h (s_V_of (fun u65 h => ?_)) (fun _ _ h9 => h9))
  show s_Ex (d + 1) 0 mX12_coast 323 [some (.ref (79)), none, some (.int (x2)), none, none, none] [] u65 Q X
  refine s_blk [(.iinc 2 1, 3, 0, 0), (.goto (-282), 3, 44, 0)] 44 [some (.ref (79)), none, some (.int (x2 + 1)), none, none, none] [] u65 [] (by decide +kernel) (by refine qt_iinc (x := x2) (L' := [some (.ref (79)), none, some (.int (x2 + 1)), none, none, none]) rfl qc_1 rfl ?_; refine qt_goto ?_; exact qt_z rfl rfl rfl rfl rfl) trivial ?_
  exact h
theorem xX12_coast_213 {d : Nat} {x2 : Int32} {x3 : Int32} {x4 : Int32} {x5 : Int32} {w : q_Sm} {Q : s_Po} {X : s_Xo} (h : vX12_coast_213 d x2 x3 x4 x5 w Q X) : s_Ex (d + 1) 0 mX12_coast 213 [some (.ref (79)), none, some (.int (x2)), some (.int (x3)), some (.int (x4)), some (.int (x5))] [] w Q X := by
  unfold vX12_coast_213 at h
  refine s_blk [(.iload 5, 2, 0, 0), (.ldc_w 260, 3, 1, 30)] 218 [some (.ref (79)), none, some (.int (x2)), some (.int (x3)), some (.int (x4)), some (.int (x5))] [.retAddr (30), .int (x5)] w [] (by decide +kernel) (by refine qt_iload (x := x5) rfl ?_; refine qt_ldcSW ?_; exact qt_z rfl rfl rfl rfl rfl) trivial ?_
  refine s_callS (a := 0) (a' := 0) (As := [.retAddr (30)]) (st := [.int (x5)]) kX12_of l_12_236 (by decide +kernel) rfl (Nat.le_of_ble_eq_true rfl) (s_mono h (s_I_of (fun v66 u67 h => ?_)) (fun _ _ h9 => h9))
  show s_Ex (d + 1) 0 mX12_coast 221 [some (.ref (79)), none, some (.int (x2)), some (.int (x3)), some (.int (x4)), some (.int (x5))] [.int (v66), .int (x5)] u67 Q X
  refine s_icmp (cd := .ne) (off := 21) 242 (by decide +kernel) (by decide) (fun hc => ?_) (fun hc => ?_)
  · replace h := h.1 hc
    exact h
  · replace h := h.2 hc
    refine s_blk [(.aload_n 0, 1, 0, 0), (.getfield 184, 3, 12, 26), (.bipush 12, 2, 0, 0)] 230 [some (.ref (79)), none, some (.int (x2)), some (.int (x3)), some (.int (x4)), some (.int (x5))] [.int (12), .int (u67.1 79 26)] u67 [q_id 116 12 79] (by decide +kernel) (by refine qt_aload_n (r := 79) rfl ?_; refine qt_getI rfl rfl ?_; refine qt_bipush qb_12 ?_; exact qt_z rfl rfl rfl rfl rfl) (q_id_of rfl) ?_
    refine s_icmp (cd := .ne) (off := 12) 242 (by decide +kernel) (by decide) (fun hc => ?_) (fun hc => ?_)
    · replace h := h.1 hc
      exact h
    · replace h := h.2 hc
      exact h
theorem eX12_coast {d : Nat} {x1 : Int32} {w : q_Sm} {Q : s_Po} {X : s_Xo} (h : vX12_coast_0 d x1 w Q X) : s_Ev (d + 1) 0 mX12_coast w [.ref (79), .int (x1)] Q X := s_of (by decide +kernel) rfl (Nat.le_of_ble_eq_true rfl) (xX12_coast_0 h)
def vX12_emit_0 (d : Nat) (x1 : Int32) (x2 : Int32) (w : q_Sm) (Q : s_Po) (X : s_Xo) : Prop := s_EvI d 0 mX12_fine w [.ref (79)] (fun v1 u2 => ((¬ v1 = 0) → (vp_in (u2.1 79 39) 150) ∧ ∀ w_3 : q_Sm, w_3 = q_wI u2 96 (Int32.toNatClampNeg (u2.1 79 39)) x1 → (vp_in (w_3.1 79 39) 150) ∧ ∀ w_4 : q_Sm, w_4 = q_wI w_3 97 (Int32.toNatClampNeg (w_3.1 79 39)) x2 → ∀ w_5 : q_Sm, w_5 = q_wI w_4 79 39 ((w_4.1 79 39) + 1) → Q none w_5) ∧ (¬ (¬ v1 = 0) → Q none u2)) X
theorem xX12_emit_0 {d : Nat} {x1 : Int32} {x2 : Int32} {w : q_Sm} {Q : s_Po} {X : s_Xo} (h : vX12_emit_0 d x1 x2 w Q X) : s_Ex (d + 1) 0 mX12_emit 0 [some (.ref (79)), some (.int (x1)), some (.int (x2))] [] w Q X := by
  unfold vX12_emit_0 at h
  refine s_blk [(.aload_n 0, 1, 0, 0)] 1 [some (.ref (79)), some (.int (x1)), some (.int (x2))] [.ref (79)] w [] (by decide +kernel) (by refine qt_aload_n (r := 79) rfl ?_; exact qt_z rfl rfl rfl rfl rfl) trivial ?_
  refine s_callV (a := 0) (a' := 0) (As := []) (id := 79) (st := []) kX12_fine l_12_164 (by decide +kernel) (q_id_of rfl) rfl (Nat.le_of_ble_eq_true rfl) (s_mono h (s_I_of (fun v1 u2 h => ?_)) (fun _ _ h9 => h9))
  show s_Ex (d + 1) 0 mX12_emit 4 [some (.ref (79)), some (.int (x1)), some (.int (x2))] [.int (v1)] u2 Q X
  refine s_if (cd := .ne) (off := 4) 8 (by decide +kernel) (by decide) (fun hc => ?_) (fun hc => ?_)
  · replace h := h.1 hc
    obtain ⟨ho6, h⟩ := h
    replace h := h _ rfl
    obtain ⟨ho7, h⟩ := h
    replace h := h _ rfl
    replace h := h _ rfl
    refine s_blk [(.aload_n 0, 1, 0, 0), (.getfield 65, 3, 12, 34), (.aload_n 0, 1, 0, 0), (.getfield 304, 3, 12, 39), (.iload_n 1, 1, 0, 0), (.iastore, 1, 0, 0), (.aload_n 0, 1, 0, 0), (.getfield 68, 3, 12, 35), (.aload_n 0, 1, 0, 0), (.getfield 304, 3, 12, 39), (.iload_n 2, 1, 0, 0), (.iastore, 1, 0, 0), (.aload_n 0, 1, 0, 0), (.dup, 1, 0, 0), (.getfield 304, 3, 12, 39), (.iconst 1, 1, 0, 0), (.iadd, 1, 0, 0), (.putfield 304, 3, 12, 39)] 38 [some (.ref (79)), some (.int (x1)), some (.int (x2))] [] (q_wI (q_wI (q_wI u2 96 (Int32.toNatClampNeg (u2.1 79 39)) x1) 97 (Int32.toNatClampNeg ((q_wI u2 96 (Int32.toNatClampNeg (u2.1 79 39)) x1).1 79 39)) x2) 79 39 (((q_wI (q_wI u2 96 (Int32.toNatClampNeg (u2.1 79 39)) x1) 97 (Int32.toNatClampNeg ((q_wI u2 96 (Int32.toNatClampNeg (u2.1 79 39)) x1).1 79 39)) x2).1 79 39) + 1)) [q_id 116 12 79, q_id 116 12 79, q_id 116 14 96, vp_in (u2.1 79 39) 150, q_id 116 12 79, q_id 116 12 79, q_id 116 14 97, vp_in ((q_wI u2 96 (Int32.toNatClampNeg (u2.1 79 39)) x1).1 79 39) 150, q_id 116 12 79, q_id 116 12 79] (by decide +kernel) (by refine qt_aload_n (r := 79) rfl ?_; refine qt_getR (r := 96) rfl rfl rfl ?_; refine qt_aload_n (r := 79) rfl ?_; refine qt_getI rfl rfl ?_; refine qt_iload_n (x := x1) rfl ?_; refine qt_iast ?_; refine qt_aload_n (r := 79) rfl ?_; refine qt_getR (r := 97) rfl rfl rfl ?_; refine qt_aload_n (r := 79) rfl ?_; refine qt_getI rfl rfl ?_; refine qt_iload_n (x := x2) rfl ?_; refine qt_iast ?_; refine qt_aload_n (r := 79) rfl ?_; refine qt_dupR ?_; refine qt_getI rfl rfl ?_; refine qt_iconst qc_1 ?_; refine qt_iadd ?_; refine qt_putI rfl ?_; exact qt_z rfl rfl rfl rfl rfl) ⟨(q_id_of rfl), (q_id_of rfl), (q_id_of rfl), ho6, (q_id_of rfl), (q_id_of rfl), (q_id_of rfl), ho7, (q_id_of rfl), (q_id_of rfl)⟩ ?_
    exact s_retV (by decide +kernel) rfl h
  · replace h := h.2 hc
    exact s_retV (by decide +kernel) rfl h
theorem eX12_emit {d : Nat} {x1 : Int32} {x2 : Int32} {w : q_Sm} {Q : s_Po} {X : s_Xo} (h : vX12_emit_0 d x1 x2 w Q X) : s_Ev (d + 1) 0 mX12_emit w [.ref (79), .int (x1), .int (x2)] Q X := s_of (by decide +kernel) rfl (Nat.le_of_ble_eq_true rfl) (xX12_emit_0 h)
def vX12_opensOne_0 (d : Nat) (x1 : Int32) (w : q_Sm) (Q : s_Po) (X : s_Xo) : Prop := s_EvI d 0 mX12_fine w [.ref (79)] (fun v1 u2 => ((v1 = 0) → s_Ex (d + 1) 0 mX12_opensOne 25 [some (.ref (79)), some (.int (x1))] [] u2 Q X) ∧ (¬ (v1 = 0) → ((¬ (u2.1 79 7) = 6) → s_Ex (d + 1) 0 mX12_opensOne 25 [some (.ref (79)), some (.int (x1))] [] u2 Q X) ∧ (¬ (¬ (u2.1 79 7) = 6) → s_EvV d 0 mX12_wrong u2 [.ref (79), .int (3), .int (u2.1 79 4)] (fun u4 => s_Ex (d + 1) 0 mX12_opensOne 25 [some (.ref (79)), some (.int (x1))] [] u4 Q X) X))) X
def vX12_opensOne_25 (d : Nat) (x1 : Int32) (w : q_Sm) (Q : s_Po) (X : s_Xo) : Prop := s_EvI d 0 mX12_fine w [.ref (79)] (fun v5 u6 => ((v5 = 0) → s_Ex (d + 1) 0 mX12_opensOne 42 [some (.ref (79)), none] [] u6 Q X) ∧ (¬ (v5 = 0) → ∀ w_7 : q_Sm, w_7 = q_wI u6 79 4 ((u6.1 79 4) + x1) → s_Ex (d + 1) 0 mX12_opensOne 42 [some (.ref (79)), none] [] w_7 Q X)) X
def vX12_opensOne_42 (d : Nat)  (w : q_Sm) (Q : s_Po) (X : s_Xo) : Prop := ∀ w_8 : q_Sm, w_8 = q_wI w 79 7 ((w.1 79 7) + 1) → Q none w_8
theorem xX12_opensOne_0 {d : Nat} {x1 : Int32} {w : q_Sm} {Q : s_Po} {X : s_Xo} (h : vX12_opensOne_0 d x1 w Q X) : s_Ex (d + 1) 0 mX12_opensOne 0 [some (.ref (79)), some (.int (x1))] [] w Q X := by
  unfold vX12_opensOne_0 at h
  refine s_blk [(.aload_n 0, 1, 0, 0)] 1 [some (.ref (79)), some (.int (x1))] [.ref (79)] w [] (by decide +kernel) (by refine qt_aload_n (r := 79) rfl ?_; exact qt_z rfl rfl rfl rfl rfl) trivial ?_
  refine s_callV (a := 0) (a' := 0) (As := []) (id := 79) (st := []) kX12_fine l_12_164 (by decide +kernel) (q_id_of rfl) rfl (Nat.le_of_ble_eq_true rfl) (s_mono h (s_I_of (fun v1 u2 h => ?_)) (fun _ _ h9 => h9))
  show s_Ex (d + 1) 0 mX12_opensOne 4 [some (.ref (79)), some (.int (x1))] [.int (v1)] u2 Q X
  refine s_if (cd := .eq) (off := 21) 25 (by decide +kernel) (by decide) (fun hc => ?_) (fun hc => ?_)
  · replace h := h.1 hc
    exact h
  · replace h := h.2 hc
    refine s_blk [(.aload_n 0, 1, 0, 0), (.getfield 175, 3, 12, 7), (.bipush 6, 2, 0, 0)] 13 [some (.ref (79)), some (.int (x1))] [.int (6), .int (u2.1 79 7)] u2 [q_id 116 12 79] (by decide +kernel) (by refine qt_aload_n (r := 79) rfl ?_; refine qt_getI rfl rfl ?_; refine qt_bipush qb_6 ?_; exact qt_z rfl rfl rfl rfl rfl) (q_id_of rfl) ?_
    refine s_icmp (cd := .ne) (off := 12) 25 (by decide +kernel) (by decide) (fun hc => ?_) (fun hc => ?_)
    · replace h := h.1 hc
      exact h
    · replace h := h.2 hc
      refine s_blk [(.aload_n 0, 1, 0, 0), (.iconst 3, 1, 0, 0), (.aload_n 0, 1, 0, 0), (.getfield 141, 3, 12, 4)] 22 [some (.ref (79)), some (.int (x1))] [.int (u2.1 79 4), .int (3), .ref (79)] u2 [q_id 116 12 79] (by decide +kernel) (by refine qt_aload_n (r := 79) rfl ?_; refine qt_iconst qc_3 ?_; refine qt_aload_n (r := 79) rfl ?_; refine qt_getI rfl rfl ?_; exact qt_z rfl rfl rfl rfl rfl) (q_id_of rfl) ?_
      refine s_callV (a := 0) (a' := 0) (As := [.int (3), .int (u2.1 79 4)]) (id := 79) (st := []) kX12_wrong l_12_171 (by decide +kernel) (q_id_of rfl) rfl (Nat.le_of_ble_eq_true rfl) (s_mono h (s_V_of (fun u4 h => ?_)) (fun _ _ h9 => h9))
      show s_Ex (d + 1) 0 mX12_opensOne 25 [some (.ref (79)), some (.int (x1))] [] u4 Q X
      exact h
theorem xX12_opensOne_25 {d : Nat} {x1 : Int32} {w : q_Sm} {Q : s_Po} {X : s_Xo} (h : vX12_opensOne_25 d x1 w Q X) : s_Ex (d + 1) 0 mX12_opensOne 25 [some (.ref (79)), some (.int (x1))] [] w Q X := by
  unfold vX12_opensOne_25 at h
  refine s_blk [(.aload_n 0, 1, 0, 0)] 26 [some (.ref (79)), some (.int (x1))] [.ref (79)] w [] (by decide +kernel) (by refine qt_aload_n (r := 79) rfl ?_; exact qt_z rfl rfl rfl rfl rfl) trivial ?_
  refine s_callV (a := 0) (a' := 0) (As := []) (id := 79) (st := []) kX12_fine l_12_164 (by decide +kernel) (q_id_of rfl) rfl (Nat.le_of_ble_eq_true rfl) (s_mono h (s_I_of (fun v5 u6 h => ?_)) (fun _ _ h9 => h9))
  show s_Ex (d + 1) 0 mX12_opensOne 29 [some (.ref (79)), some (.int (x1))] [.int (v5)] u6 Q X
  refine s_if (cd := .eq) (off := 13) 42 (by decide +kernel) (by decide) (fun hc => ?_) (fun hc => ?_)
  · replace h := h.1 hc
    refine s_blk [(.nop, 0, 1, 0)] 42 [some (.ref (79)), none] [] u6 [] (by decide +kernel) (by refine qt_nop (L' := [some (.ref (79)), none]) rfl ?_; exact qt_z rfl rfl rfl rfl rfl) trivial ?_
    exact h
  · replace h := h.2 hc
    replace h := h _ rfl
    refine s_blk [(.aload_n 0, 1, 0, 0), (.dup, 1, 0, 0), (.getfield 141, 3, 12, 4), (.iload_n 1, 1, 0, 0), (.iadd, 1, 0, 0), (.putfield 141, 3, 12, 4), (.nop, 0, 1, 0)] 42 [some (.ref (79)), none] [] (q_wI u6 79 4 ((u6.1 79 4) + x1)) [q_id 116 12 79, q_id 116 12 79] (by decide +kernel) (by refine qt_aload_n (r := 79) rfl ?_; refine qt_dupR ?_; refine qt_getI rfl rfl ?_; refine qt_iload_n (x := x1) rfl ?_; refine qt_iadd ?_; refine qt_putI rfl ?_; refine qt_nop (L' := [some (.ref (79)), none]) rfl ?_; exact qt_z rfl rfl rfl rfl rfl) ⟨(q_id_of rfl), (q_id_of rfl)⟩ ?_
    exact h
theorem xX12_opensOne_42 {d : Nat}  {w : q_Sm} {Q : s_Po} {X : s_Xo} (h : vX12_opensOne_42 d  w Q X) : s_Ex (d + 1) 0 mX12_opensOne 42 [some (.ref (79)), none] [] w Q X := by
  unfold vX12_opensOne_42 at h
  replace h := h _ rfl
  refine s_blk [(.aload_n 0, 1, 0, 0), (.dup, 1, 0, 0), (.getfield 175, 3, 12, 7), (.iconst 1, 1, 0, 0), (.iadd, 1, 0, 0), (.putfield 175, 3, 12, 7)] 52 [some (.ref (79)), none] [] (q_wI w 79 7 ((w.1 79 7) + 1)) [q_id 116 12 79, q_id 116 12 79] (by decide +kernel) (by refine qt_aload_n (r := 79) rfl ?_; refine qt_dupR ?_; refine qt_getI rfl rfl ?_; refine qt_iconst qc_1 ?_; refine qt_iadd ?_; refine qt_putI rfl ?_; exact qt_z rfl rfl rfl rfl rfl) ⟨(q_id_of rfl), (q_id_of rfl)⟩ ?_
  exact s_retV (by decide +kernel) rfl h
theorem eX12_opensOne {d : Nat} {x1 : Int32} {w : q_Sm} {Q : s_Po} {X : s_Xo} (h : vX12_opensOne_0 d x1 w Q X) : s_Ev (d + 1) 0 mX12_opensOne w [.ref (79), .int (x1)] Q X := s_of (by decide +kernel) rfl (Nat.le_of_ble_eq_true rfl) (xX12_opensOne_0 h)
def vX12_readSum_0 (d : Nat)  (w : q_Sm) (Q : s_Po) (X : s_Xo) : Prop := s_EvV d 0 mX12_readProduct w [.ref (79)] (fun u2 => s_Ex (d + 1) 0 mX12_readSum 4 [some (.ref (79)), none] [] u2 Q X) X
def vX12_readSum_4 (d : Nat)  (w : q_Sm) (Q : s_Po) (X : s_Xo) : Prop := s_EvI d 0 mX12_fine w [.ref (79)] (fun v3 u4 => ((v3 = 0) → Q none u4) ∧ (¬ (v3 = 0) → s_EvI d 0 mX12_here u4 [.ref (79)] (fun v5 u6 => ((v5 = 43) → s_Ex (d + 1) 0 mX12_readSum 29 [some (.ref (79)), none] [] u6 Q X) ∧ (¬ (v5 = 43) → s_EvI d 0 mX12_here u6 [.ref (79)] (fun v7 u8 => ((¬ v7 = 45) → Q none u8) ∧ (¬ (¬ v7 = 45) → s_Ex (d + 1) 0 mX12_readSum 29 [some (.ref (79)), none] [] u8 Q X)) X)) X)) X
def vX12_readSum_29 (d : Nat)  (w : q_Sm) (Q : s_Po) (X : s_Xo) : Prop := s_EvI d 0 mX12_here w [.ref (79)] (fun v9 u10 => ((¬ v9 = 43) → ∀ w_11 : q_Sm, w_11 = q_wI u10 79 4 ((u10.1 79 4) + 1) → s_EvV d 0 mX12_readProduct w_11 [.ref (79)] (fun u13 => s_EvV d 0 mX12_emit u13 [.ref (79), .int (3), .int (0)] (fun u15 => s_Ex (d + 1) 0 mX12_readSum 4 [some (.ref (79)), none] [] u15 Q X) X) X) ∧ (¬ (¬ v9 = 43) → ∀ w_16 : q_Sm, w_16 = q_wI u10 79 4 ((u10.1 79 4) + 1) → s_EvV d 0 mX12_readProduct w_16 [.ref (79)] (fun u18 => s_EvV d 0 mX12_emit u18 [.ref (79), .int (2), .int (0)] (fun u20 => s_Ex (d + 1) 0 mX12_readSum 4 [some (.ref (79)), none] [] u20 Q X) X) X)) X
theorem xX12_readSum_0 {d : Nat}  {w : q_Sm} {Q : s_Po} {X : s_Xo} (h : vX12_readSum_0 d  w Q X) : s_Ex (d + 1) 0 mX12_readSum 0 [some (.ref (79)), none] [] w Q X := by
  unfold vX12_readSum_0 at h
  refine s_blk [(.aload_n 0, 1, 0, 0)] 1 [some (.ref (79)), none] [.ref (79)] w [] (by decide +kernel) (by refine qt_aload_n (r := 79) rfl ?_; exact qt_z rfl rfl rfl rfl rfl) trivial ?_
  refine s_callV (a := 0) (a' := 0) (As := []) (id := 79) (st := []) kX12_readProduct l_12_307 (by decide +kernel) (q_id_of rfl) rfl (Nat.le_of_ble_eq_true rfl) (s_mono h (s_V_of (fun u2 h => ?_)) (fun _ _ h9 => h9))
  show s_Ex (d + 1) 0 mX12_readSum 4 [some (.ref (79)), none] [] u2 Q X
  exact h
theorem xX12_readSum_4 {d : Nat}  {w : q_Sm} {Q : s_Po} {X : s_Xo} (h : vX12_readSum_4 d  w Q X) : s_Ex (d + 1) 0 mX12_readSum 4 [some (.ref (79)), none] [] w Q X := by
  unfold vX12_readSum_4 at h
  refine s_blk [(.aload_n 0, 1, 0, 0)] 5 [some (.ref (79)), none] [.ref (79)] w [] (by decide +kernel) (by refine qt_aload_n (r := 79) rfl ?_; exact qt_z rfl rfl rfl rfl rfl) trivial ?_
  refine s_callV (a := 0) (a' := 0) (As := []) (id := 79) (st := []) kX12_fine l_12_164 (by decide +kernel) (q_id_of rfl) rfl (Nat.le_of_ble_eq_true rfl) (s_mono h (s_I_of (fun v3 u4 h => ?_)) (fun _ _ h9 => h9))
  show s_Ex (d + 1) 0 mX12_readSum 8 [some (.ref (79)), none] [.int (v3)] u4 Q X
  refine s_if (cd := .eq) (off := 59) 67 (by decide +kernel) (by decide) (fun hc => ?_) (fun hc => ?_)
  · replace h := h.1 hc
    exact s_retV (by decide +kernel) rfl h
  · replace h := h.2 hc
    refine s_blk [(.aload_n 0, 1, 0, 0)] 12 [some (.ref (79)), none] [.ref (79)] u4 [] (by decide +kernel) (by refine qt_aload_n (r := 79) rfl ?_; exact qt_z rfl rfl rfl rfl rfl) trivial ?_
    refine s_callV (a := 0) (a' := 0) (As := []) (id := 79) (st := []) kX12_here l_12_147 (by decide +kernel) (q_id_of rfl) rfl (Nat.le_of_ble_eq_true rfl) (s_mono h (s_I_of (fun v5 u6 h => ?_)) (fun _ _ h9 => h9))
    show s_Ex (d + 1) 0 mX12_readSum 15 [some (.ref (79)), none] [.int (v5)] u6 Q X
    refine s_blk [(.bipush 43, 2, 0, 0)] 17 [some (.ref (79)), none] [.int (43), .int (v5)] u6 [] (by decide +kernel) (by refine qt_bipush qb_43 ?_; exact qt_z rfl rfl rfl rfl rfl) trivial ?_
    refine s_icmp (cd := .eq) (off := 12) 29 (by decide +kernel) (by decide) (fun hc => ?_) (fun hc => ?_)
    · replace h := h.1 hc
      exact h
    · replace h := h.2 hc
      refine s_blk [(.aload_n 0, 1, 0, 0)] 21 [some (.ref (79)), none] [.ref (79)] u6 [] (by decide +kernel) (by refine qt_aload_n (r := 79) rfl ?_; exact qt_z rfl rfl rfl rfl rfl) trivial ?_
      refine s_callV (a := 0) (a' := 0) (As := []) (id := 79) (st := []) kX12_here l_12_147 (by decide +kernel) (q_id_of rfl) rfl (Nat.le_of_ble_eq_true rfl) (s_mono h (s_I_of (fun v7 u8 h => ?_)) (fun _ _ h9 => h9))
      show s_Ex (d + 1) 0 mX12_readSum 24 [some (.ref (79)), none] [.int (v7)] u8 Q X
      refine s_blk [(.bipush 45, 2, 0, 0)] 26 [some (.ref (79)), none] [.int (45), .int (v7)] u8 [] (by decide +kernel) (by refine qt_bipush qb_45 ?_; exact qt_z rfl rfl rfl rfl rfl) trivial ?_
      refine s_icmp (cd := .ne) (off := 41) 67 (by decide +kernel) (by decide) (fun hc => ?_) (fun hc => ?_)
      · replace h := h.1 hc
        exact s_retV (by decide +kernel) rfl h
      · replace h := h.2 hc
        exact h
theorem xX12_readSum_29 {d : Nat}  {w : q_Sm} {Q : s_Po} {X : s_Xo} (h : vX12_readSum_29 d  w Q X) : s_Ex (d + 1) 0 mX12_readSum 29 [some (.ref (79)), none] [] w Q X := by
  unfold vX12_readSum_29 at h
  refine s_blk [(.aload_n 0, 1, 0, 0)] 30 [some (.ref (79)), none] [.ref (79)] w [] (by decide +kernel) (by refine qt_aload_n (r := 79) rfl ?_; exact qt_z rfl rfl rfl rfl rfl) trivial ?_
  refine s_callV (a := 0) (a' := 0) (As := []) (id := 79) (st := []) kX12_here l_12_147 (by decide +kernel) (q_id_of rfl) rfl (Nat.le_of_ble_eq_true rfl) (s_mono h (s_I_of (fun v9 u10 h => ?_)) (fun _ _ h9 => h9))
  show s_Ex (d + 1) 0 mX12_readSum 33 [some (.ref (79)), none] [.int (v9)] u10 Q X
  refine s_blk [(.bipush 43, 2, 0, 0)] 35 [some (.ref (79)), none] [.int (43), .int (v9)] u10 [] (by decide +kernel) (by refine qt_bipush qb_43 ?_; exact qt_z rfl rfl rfl rfl rfl) trivial ?_
  refine s_icmp (cd := .ne) (off := 7) 42 (by decide +kernel) (by decide) (fun hc => ?_) (fun hc => ?_)
  · replace h := h.1 hc
    replace h := h _ rfl
    refine s_blk [(.iconst 3, 1, 0, 0), (.istore_n 1, 1, 0, 0), (.aload_n 0, 1, 0, 0), (.dup, 1, 0, 0), (.getfield 141, 3, 12, 4), (.iconst 1, 1, 0, 0), (.iadd, 1, 0, 0), (.putfield 141, 3, 12, 4), (.aload_n 0, 1, 0, 0)] 55 [some (.ref (79)), some (.int (3))] [.ref (79)] (q_wI u10 79 4 ((u10.1 79 4) + 1)) [q_id 116 12 79, q_id 116 12 79] (by decide +kernel) (by refine qt_iconst qc_3 ?_; refine qt_istore_n (L' := [some (.ref (79)), some (.int (3))]) rfl ?_; refine qt_aload_n (r := 79) rfl ?_; refine qt_dupR ?_; refine qt_getI rfl rfl ?_; refine qt_iconst qc_1 ?_; refine qt_iadd ?_; refine qt_putI rfl ?_; refine qt_aload_n (r := 79) rfl ?_; exact qt_z rfl rfl rfl rfl rfl) ⟨(q_id_of rfl), (q_id_of rfl)⟩ ?_
    refine s_callV (a := 0) (a' := 0) (As := []) (id := 79) (st := []) kX12_readProduct l_12_307 (by decide +kernel) (q_id_of rfl) rfl (Nat.le_of_ble_eq_true rfl) (s_mono h (s_V_of (fun u13 h => ?_)) (fun _ _ h9 => h9))
    show s_Ex (d + 1) 0 mX12_readSum 58 [some (.ref (79)), some (.int (3))] [] u13 Q X
    refine s_blk [(.aload_n 0, 1, 0, 0), (.iload_n 1, 1, 0, 0), (.iconst 0, 1, 0, 0)] 61 [some (.ref (79)), some (.int (3))] [.int (0), .int (3), .ref (79)] u13 [] (by decide +kernel) (by refine qt_aload_n (r := 79) rfl ?_; refine qt_iload_n (x := 3) rfl ?_; refine qt_iconst qc_0 ?_; exact qt_z rfl rfl rfl rfl rfl) trivial ?_
    refine s_callV (a := 0) (a' := 0) (As := [.int (3), .int (0)]) (id := 79) (st := []) kX12_emit l_12_310 (by decide +kernel) (q_id_of rfl) rfl (Nat.le_of_ble_eq_true rfl) (s_mono h (s_V_of (fun u15 h => ?_)) (fun _ _ h9 => h9))
    show s_Ex (d + 1) 0 mX12_readSum 64 [some (.ref (79)), some (.int (3))] [] u15 Q X
    refine s_blk [(.goto (-60), 3, 4, 0), (.nop, 0, 1, 0)] 4 [some (.ref (79)), none] [] u15 [] (by decide +kernel) (by refine qt_goto ?_; refine qt_nop (L' := [some (.ref (79)), none]) rfl ?_; exact qt_z rfl rfl rfl rfl rfl) trivial ?_
    exact h
  · replace h := h.2 hc
    replace h := h _ rfl
    refine s_blk [(.iconst 2, 1, 0, 0), (.goto 4, 3, 43, 0), (.istore_n 1, 1, 0, 0), (.aload_n 0, 1, 0, 0), (.dup, 1, 0, 0), (.getfield 141, 3, 12, 4), (.iconst 1, 1, 0, 0), (.iadd, 1, 0, 0), (.putfield 141, 3, 12, 4), (.aload_n 0, 1, 0, 0)] 55 [some (.ref (79)), some (.int (2))] [.ref (79)] (q_wI u10 79 4 ((u10.1 79 4) + 1)) [q_id 116 12 79, q_id 116 12 79] (by decide +kernel) (by refine qt_iconst qc_2 ?_; refine qt_goto ?_; refine qt_istore_n (L' := [some (.ref (79)), some (.int (2))]) rfl ?_; refine qt_aload_n (r := 79) rfl ?_; refine qt_dupR ?_; refine qt_getI rfl rfl ?_; refine qt_iconst qc_1 ?_; refine qt_iadd ?_; refine qt_putI rfl ?_; refine qt_aload_n (r := 79) rfl ?_; exact qt_z rfl rfl rfl rfl rfl) ⟨(q_id_of rfl), (q_id_of rfl)⟩ ?_
    refine s_callV (a := 0) (a' := 0) (As := []) (id := 79) (st := []) kX12_readProduct l_12_307 (by decide +kernel) (q_id_of rfl) rfl (Nat.le_of_ble_eq_true rfl) (s_mono h (s_V_of (fun u18 h => ?_)) (fun _ _ h9 => h9))
    show s_Ex (d + 1) 0 mX12_readSum 58 [some (.ref (79)), some (.int (2))] [] u18 Q X
    refine s_blk [(.aload_n 0, 1, 0, 0), (.iload_n 1, 1, 0, 0), (.iconst 0, 1, 0, 0)] 61 [some (.ref (79)), some (.int (2))] [.int (0), .int (2), .ref (79)] u18 [] (by decide +kernel) (by refine qt_aload_n (r := 79) rfl ?_; refine qt_iload_n (x := 2) rfl ?_; refine qt_iconst qc_0 ?_; exact qt_z rfl rfl rfl rfl rfl) trivial ?_
    refine s_callV (a := 0) (a' := 0) (As := [.int (2), .int (0)]) (id := 79) (st := []) kX12_emit l_12_310 (by decide +kernel) (q_id_of rfl) rfl (Nat.le_of_ble_eq_true rfl) (s_mono h (s_V_of (fun u20 h => ?_)) (fun _ _ h9 => h9))
    show s_Ex (d + 1) 0 mX12_readSum 64 [some (.ref (79)), some (.int (2))] [] u20 Q X
    refine s_blk [(.goto (-60), 3, 4, 0), (.nop, 0, 1, 0)] 4 [some (.ref (79)), none] [] u20 [] (by decide +kernel) (by refine qt_goto ?_; refine qt_nop (L' := [some (.ref (79)), none]) rfl ?_; exact qt_z rfl rfl rfl rfl rfl) trivial ?_
    exact h
theorem eX12_readSum {d : Nat}  {w : q_Sm} {Q : s_Po} {X : s_Xo} (h : vX12_readSum_0 d  w Q X) : s_Ev (d + 1) 0 mX12_readSum w [.ref (79)] Q X := s_of (by decide +kernel) rfl (Nat.le_of_ble_eq_true rfl) (xX12_readSum_0 h)
def vX12_readProduct_0 (d : Nat)  (w : q_Sm) (Q : s_Po) (X : s_Xo) : Prop := s_EvV d 0 mX12_readUnit w [.ref (79)] (fun u2 => s_Ex (d + 1) 0 mX12_readProduct 4 [some (.ref (79)), none] [] u2 Q X) X
def vX12_readProduct_4 (d : Nat)  (w : q_Sm) (Q : s_Po) (X : s_Xo) : Prop := s_EvI d 0 mX12_fine w [.ref (79)] (fun v3 u4 => ((v3 = 0) → Q none u4) ∧ (¬ (v3 = 0) → s_EvI d 0 mX12_here u4 [.ref (79)] (fun v5 u6 => ((v5 = 42) → s_Ex (d + 1) 0 mX12_readProduct 29 [some (.ref (79)), none] [] u6 Q X) ∧ (¬ (v5 = 42) → s_EvI d 0 mX12_here u6 [.ref (79)] (fun v7 u8 => ((¬ v7 = 47) → Q none u8) ∧ (¬ (¬ v7 = 47) → s_Ex (d + 1) 0 mX12_readProduct 29 [some (.ref (79)), none] [] u8 Q X)) X)) X)) X
def vX12_readProduct_29 (d : Nat)  (w : q_Sm) (Q : s_Po) (X : s_Xo) : Prop := s_EvI d 0 mX12_here w [.ref (79)] (fun v9 u10 => ((¬ v9 = 42) → ∀ w_11 : q_Sm, w_11 = q_wI u10 79 4 ((u10.1 79 4) + 1) → s_EvV d 0 mX12_readUnit w_11 [.ref (79)] (fun u13 => s_EvV d 0 mX12_emit u13 [.ref (79), .int (5), .int (0)] (fun u15 => s_Ex (d + 1) 0 mX12_readProduct 4 [some (.ref (79)), none] [] u15 Q X) X) X) ∧ (¬ (¬ v9 = 42) → ∀ w_16 : q_Sm, w_16 = q_wI u10 79 4 ((u10.1 79 4) + 1) → s_EvV d 0 mX12_readUnit w_16 [.ref (79)] (fun u18 => s_EvV d 0 mX12_emit u18 [.ref (79), .int (4), .int (0)] (fun u20 => s_Ex (d + 1) 0 mX12_readProduct 4 [some (.ref (79)), none] [] u20 Q X) X) X)) X
theorem xX12_readProduct_0 {d : Nat}  {w : q_Sm} {Q : s_Po} {X : s_Xo} (h : vX12_readProduct_0 d  w Q X) : s_Ex (d + 1) 0 mX12_readProduct 0 [some (.ref (79)), none] [] w Q X := by
  unfold vX12_readProduct_0 at h
  refine s_blk [(.aload_n 0, 1, 0, 0)] 1 [some (.ref (79)), none] [.ref (79)] w [] (by decide +kernel) (by refine qt_aload_n (r := 79) rfl ?_; exact qt_z rfl rfl rfl rfl rfl) trivial ?_
  refine s_callV (a := 0) (a' := 0) (As := []) (id := 79) (st := []) kX12_readUnit l_12_313 (by decide +kernel) (q_id_of rfl) rfl (Nat.le_of_ble_eq_true rfl) (s_mono h (s_V_of (fun u2 h => ?_)) (fun _ _ h9 => h9))
  show s_Ex (d + 1) 0 mX12_readProduct 4 [some (.ref (79)), none] [] u2 Q X
  exact h
theorem xX12_readProduct_4 {d : Nat}  {w : q_Sm} {Q : s_Po} {X : s_Xo} (h : vX12_readProduct_4 d  w Q X) : s_Ex (d + 1) 0 mX12_readProduct 4 [some (.ref (79)), none] [] w Q X := by
  unfold vX12_readProduct_4 at h
  refine s_blk [(.aload_n 0, 1, 0, 0)] 5 [some (.ref (79)), none] [.ref (79)] w [] (by decide +kernel) (by refine qt_aload_n (r := 79) rfl ?_; exact qt_z rfl rfl rfl rfl rfl) trivial ?_
  refine s_callV (a := 0) (a' := 0) (As := []) (id := 79) (st := []) kX12_fine l_12_164 (by decide +kernel) (q_id_of rfl) rfl (Nat.le_of_ble_eq_true rfl) (s_mono h (s_I_of (fun v3 u4 h => ?_)) (fun _ _ h9 => h9))
  show s_Ex (d + 1) 0 mX12_readProduct 8 [some (.ref (79)), none] [.int (v3)] u4 Q X
  refine s_if (cd := .eq) (off := 59) 67 (by decide +kernel) (by decide) (fun hc => ?_) (fun hc => ?_)
  · replace h := h.1 hc
    exact s_retV (by decide +kernel) rfl h
  · replace h := h.2 hc
    refine s_blk [(.aload_n 0, 1, 0, 0)] 12 [some (.ref (79)), none] [.ref (79)] u4 [] (by decide +kernel) (by refine qt_aload_n (r := 79) rfl ?_; exact qt_z rfl rfl rfl rfl rfl) trivial ?_
    refine s_callV (a := 0) (a' := 0) (As := []) (id := 79) (st := []) kX12_here l_12_147 (by decide +kernel) (q_id_of rfl) rfl (Nat.le_of_ble_eq_true rfl) (s_mono h (s_I_of (fun v5 u6 h => ?_)) (fun _ _ h9 => h9))
    show s_Ex (d + 1) 0 mX12_readProduct 15 [some (.ref (79)), none] [.int (v5)] u6 Q X
    refine s_blk [(.bipush 42, 2, 0, 0)] 17 [some (.ref (79)), none] [.int (42), .int (v5)] u6 [] (by decide +kernel) (by refine qt_bipush qb_42 ?_; exact qt_z rfl rfl rfl rfl rfl) trivial ?_
    refine s_icmp (cd := .eq) (off := 12) 29 (by decide +kernel) (by decide) (fun hc => ?_) (fun hc => ?_)
    · replace h := h.1 hc
      exact h
    · replace h := h.2 hc
      refine s_blk [(.aload_n 0, 1, 0, 0)] 21 [some (.ref (79)), none] [.ref (79)] u6 [] (by decide +kernel) (by refine qt_aload_n (r := 79) rfl ?_; exact qt_z rfl rfl rfl rfl rfl) trivial ?_
      refine s_callV (a := 0) (a' := 0) (As := []) (id := 79) (st := []) kX12_here l_12_147 (by decide +kernel) (q_id_of rfl) rfl (Nat.le_of_ble_eq_true rfl) (s_mono h (s_I_of (fun v7 u8 h => ?_)) (fun _ _ h9 => h9))
      show s_Ex (d + 1) 0 mX12_readProduct 24 [some (.ref (79)), none] [.int (v7)] u8 Q X
      refine s_blk [(.bipush 47, 2, 0, 0)] 26 [some (.ref (79)), none] [.int (47), .int (v7)] u8 [] (by decide +kernel) (by refine qt_bipush qb_47 ?_; exact qt_z rfl rfl rfl rfl rfl) trivial ?_
      refine s_icmp (cd := .ne) (off := 41) 67 (by decide +kernel) (by decide) (fun hc => ?_) (fun hc => ?_)
      · replace h := h.1 hc
        exact s_retV (by decide +kernel) rfl h
      · replace h := h.2 hc
        exact h
theorem xX12_readProduct_29 {d : Nat}  {w : q_Sm} {Q : s_Po} {X : s_Xo} (h : vX12_readProduct_29 d  w Q X) : s_Ex (d + 1) 0 mX12_readProduct 29 [some (.ref (79)), none] [] w Q X := by
  unfold vX12_readProduct_29 at h
  refine s_blk [(.aload_n 0, 1, 0, 0)] 30 [some (.ref (79)), none] [.ref (79)] w [] (by decide +kernel) (by refine qt_aload_n (r := 79) rfl ?_; exact qt_z rfl rfl rfl rfl rfl) trivial ?_
  refine s_callV (a := 0) (a' := 0) (As := []) (id := 79) (st := []) kX12_here l_12_147 (by decide +kernel) (q_id_of rfl) rfl (Nat.le_of_ble_eq_true rfl) (s_mono h (s_I_of (fun v9 u10 h => ?_)) (fun _ _ h9 => h9))
  show s_Ex (d + 1) 0 mX12_readProduct 33 [some (.ref (79)), none] [.int (v9)] u10 Q X
  refine s_blk [(.bipush 42, 2, 0, 0)] 35 [some (.ref (79)), none] [.int (42), .int (v9)] u10 [] (by decide +kernel) (by refine qt_bipush qb_42 ?_; exact qt_z rfl rfl rfl rfl rfl) trivial ?_
  refine s_icmp (cd := .ne) (off := 7) 42 (by decide +kernel) (by decide) (fun hc => ?_) (fun hc => ?_)
  · replace h := h.1 hc
    replace h := h _ rfl
    refine s_blk [(.iconst 5, 1, 0, 0), (.istore_n 1, 1, 0, 0), (.aload_n 0, 1, 0, 0), (.dup, 1, 0, 0), (.getfield 141, 3, 12, 4), (.iconst 1, 1, 0, 0), (.iadd, 1, 0, 0), (.putfield 141, 3, 12, 4), (.aload_n 0, 1, 0, 0)] 55 [some (.ref (79)), some (.int (5))] [.ref (79)] (q_wI u10 79 4 ((u10.1 79 4) + 1)) [q_id 116 12 79, q_id 116 12 79] (by decide +kernel) (by refine qt_iconst qc_5 ?_; refine qt_istore_n (L' := [some (.ref (79)), some (.int (5))]) rfl ?_; refine qt_aload_n (r := 79) rfl ?_; refine qt_dupR ?_; refine qt_getI rfl rfl ?_; refine qt_iconst qc_1 ?_; refine qt_iadd ?_; refine qt_putI rfl ?_; refine qt_aload_n (r := 79) rfl ?_; exact qt_z rfl rfl rfl rfl rfl) ⟨(q_id_of rfl), (q_id_of rfl)⟩ ?_
    refine s_callV (a := 0) (a' := 0) (As := []) (id := 79) (st := []) kX12_readUnit l_12_313 (by decide +kernel) (q_id_of rfl) rfl (Nat.le_of_ble_eq_true rfl) (s_mono h (s_V_of (fun u13 h => ?_)) (fun _ _ h9 => h9))
    show s_Ex (d + 1) 0 mX12_readProduct 58 [some (.ref (79)), some (.int (5))] [] u13 Q X
    refine s_blk [(.aload_n 0, 1, 0, 0), (.iload_n 1, 1, 0, 0), (.iconst 0, 1, 0, 0)] 61 [some (.ref (79)), some (.int (5))] [.int (0), .int (5), .ref (79)] u13 [] (by decide +kernel) (by refine qt_aload_n (r := 79) rfl ?_; refine qt_iload_n (x := 5) rfl ?_; refine qt_iconst qc_0 ?_; exact qt_z rfl rfl rfl rfl rfl) trivial ?_
    refine s_callV (a := 0) (a' := 0) (As := [.int (5), .int (0)]) (id := 79) (st := []) kX12_emit l_12_310 (by decide +kernel) (q_id_of rfl) rfl (Nat.le_of_ble_eq_true rfl) (s_mono h (s_V_of (fun u15 h => ?_)) (fun _ _ h9 => h9))
    show s_Ex (d + 1) 0 mX12_readProduct 64 [some (.ref (79)), some (.int (5))] [] u15 Q X
    refine s_blk [(.goto (-60), 3, 4, 0), (.nop, 0, 1, 0)] 4 [some (.ref (79)), none] [] u15 [] (by decide +kernel) (by refine qt_goto ?_; refine qt_nop (L' := [some (.ref (79)), none]) rfl ?_; exact qt_z rfl rfl rfl rfl rfl) trivial ?_
    exact h
  · replace h := h.2 hc
    replace h := h _ rfl
    refine s_blk [(.iconst 4, 1, 0, 0), (.goto 4, 3, 43, 0), (.istore_n 1, 1, 0, 0), (.aload_n 0, 1, 0, 0), (.dup, 1, 0, 0), (.getfield 141, 3, 12, 4), (.iconst 1, 1, 0, 0), (.iadd, 1, 0, 0), (.putfield 141, 3, 12, 4), (.aload_n 0, 1, 0, 0)] 55 [some (.ref (79)), some (.int (4))] [.ref (79)] (q_wI u10 79 4 ((u10.1 79 4) + 1)) [q_id 116 12 79, q_id 116 12 79] (by decide +kernel) (by refine qt_iconst qc_4 ?_; refine qt_goto ?_; refine qt_istore_n (L' := [some (.ref (79)), some (.int (4))]) rfl ?_; refine qt_aload_n (r := 79) rfl ?_; refine qt_dupR ?_; refine qt_getI rfl rfl ?_; refine qt_iconst qc_1 ?_; refine qt_iadd ?_; refine qt_putI rfl ?_; refine qt_aload_n (r := 79) rfl ?_; exact qt_z rfl rfl rfl rfl rfl) ⟨(q_id_of rfl), (q_id_of rfl)⟩ ?_
    refine s_callV (a := 0) (a' := 0) (As := []) (id := 79) (st := []) kX12_readUnit l_12_313 (by decide +kernel) (q_id_of rfl) rfl (Nat.le_of_ble_eq_true rfl) (s_mono h (s_V_of (fun u18 h => ?_)) (fun _ _ h9 => h9))
    show s_Ex (d + 1) 0 mX12_readProduct 58 [some (.ref (79)), some (.int (4))] [] u18 Q X
    refine s_blk [(.aload_n 0, 1, 0, 0), (.iload_n 1, 1, 0, 0), (.iconst 0, 1, 0, 0)] 61 [some (.ref (79)), some (.int (4))] [.int (0), .int (4), .ref (79)] u18 [] (by decide +kernel) (by refine qt_aload_n (r := 79) rfl ?_; refine qt_iload_n (x := 4) rfl ?_; refine qt_iconst qc_0 ?_; exact qt_z rfl rfl rfl rfl rfl) trivial ?_
    refine s_callV (a := 0) (a' := 0) (As := [.int (4), .int (0)]) (id := 79) (st := []) kX12_emit l_12_310 (by decide +kernel) (q_id_of rfl) rfl (Nat.le_of_ble_eq_true rfl) (s_mono h (s_V_of (fun u20 h => ?_)) (fun _ _ h9 => h9))
    show s_Ex (d + 1) 0 mX12_readProduct 64 [some (.ref (79)), some (.int (4))] [] u20 Q X
    refine s_blk [(.goto (-60), 3, 4, 0), (.nop, 0, 1, 0)] 4 [some (.ref (79)), none] [] u20 [] (by decide +kernel) (by refine qt_goto ?_; refine qt_nop (L' := [some (.ref (79)), none]) rfl ?_; exact qt_z rfl rfl rfl rfl rfl) trivial ?_
    exact h
theorem eX12_readProduct {d : Nat}  {w : q_Sm} {Q : s_Po} {X : s_Xo} (h : vX12_readProduct_0 d  w Q X) : s_Ev (d + 1) 0 mX12_readProduct w [.ref (79)] Q X := s_of (by decide +kernel) rfl (Nat.le_of_ble_eq_true rfl) (xX12_readProduct_0 h)
def vX12_readTwo_0 (d : Nat) (x1 : Int32) (x2 : Int32) (w : q_Sm) (Q : s_Po) (X : s_Xo) : Prop := s_EvV d 0 mX12_opensOne w [.ref (79), .int (x1)] (fun u2 => s_EvV d 0 mX12_sign u2 [.ref (79), .int (91)] (fun u4 => s_EvV d 0 mX12_readSum u4 [.ref (79)] (fun u6 => s_EvV d 0 mX12_sign u6 [.ref (79), .int (44)] (fun u8 => s_EvV d 0 mX12_readSum u8 [.ref (79)] (fun u10 => s_EvV d 0 mX12_sign u10 [.ref (79), .int (93)] (fun u12 => ∀ w_13 : q_Sm, w_13 = q_wI u12 79 7 ((u12.1 79 7) - 1) → s_EvV d 0 mX12_emit w_13 [.ref (79), .int (x2), .int (0)] (fun u15 => Q none u15) X) X) X) X) X) X) X
theorem xX12_readTwo_0 {d : Nat} {x1 : Int32} {x2 : Int32} {w : q_Sm} {Q : s_Po} {X : s_Xo} (h : vX12_readTwo_0 d x1 x2 w Q X) : s_Ex (d + 1) 0 mX12_readTwo 0 [some (.ref (79)), some (.int (x1)), some (.int (x2))] [] w Q X := by
  unfold vX12_readTwo_0 at h
  refine s_blk [(.aload_n 0, 1, 0, 0), (.iload_n 1, 1, 0, 0)] 2 [some (.ref (79)), some (.int (x1)), some (.int (x2))] [.int (x1), .ref (79)] w [] (by decide +kernel) (by refine qt_aload_n (r := 79) rfl ?_; refine qt_iload_n (x := x1) rfl ?_; exact qt_z rfl rfl rfl rfl rfl) trivial ?_
  refine s_callV (a := 0) (a' := 0) (As := [.int (x1)]) (id := 79) (st := []) kX12_opensOne l_12_316 (by decide +kernel) (q_id_of rfl) rfl (Nat.le_of_ble_eq_true rfl) (s_mono h (s_V_of (fun u2 h => ?_)) (fun _ _ h9 => h9))
  show s_Ex (d + 1) 0 mX12_readTwo 5 [some (.ref (79)), some (.int (x1)), some (.int (x2))] [] u2 Q X
  refine s_blk [(.aload_n 0, 1, 0, 0), (.bipush 91, 2, 0, 0)] 8 [some (.ref (79)), some (.int (x1)), some (.int (x2))] [.int (91), .ref (79)] u2 [] (by decide +kernel) (by refine qt_aload_n (r := 79) rfl ?_; refine qt_bipush qb_91 ?_; exact qt_z rfl rfl rfl rfl rfl) trivial ?_
  refine s_callV (a := 0) (a' := 0) (As := [.int (91)]) (id := 79) (st := []) kX12_sign l_12_297 (by decide +kernel) (q_id_of rfl) rfl (Nat.le_of_ble_eq_true rfl) (s_mono h (s_V_of (fun u4 h => ?_)) (fun _ _ h9 => h9))
  show s_Ex (d + 1) 0 mX12_readTwo 11 [some (.ref (79)), some (.int (x1)), some (.int (x2))] [] u4 Q X
  refine s_blk [(.aload_n 0, 1, 0, 0)] 12 [some (.ref (79)), some (.int (x1)), some (.int (x2))] [.ref (79)] u4 [] (by decide +kernel) (by refine qt_aload_n (r := 79) rfl ?_; exact qt_z rfl rfl rfl rfl rfl) trivial ?_
  refine s_callV (a := 0) (a' := 0) (As := []) (id := 79) (st := []) kX12_readSum l_12_319 (by decide +kernel) (q_id_of rfl) rfl (Nat.le_of_ble_eq_true rfl) (s_mono h (s_V_of (fun u6 h => ?_)) (fun _ _ h9 => h9))
  show s_Ex (d + 1) 0 mX12_readTwo 15 [some (.ref (79)), some (.int (x1)), some (.int (x2))] [] u6 Q X
  refine s_blk [(.aload_n 0, 1, 0, 0), (.bipush 44, 2, 0, 0)] 18 [some (.ref (79)), some (.int (x1)), some (.int (x2))] [.int (44), .ref (79)] u6 [] (by decide +kernel) (by refine qt_aload_n (r := 79) rfl ?_; refine qt_bipush qb_44 ?_; exact qt_z rfl rfl rfl rfl rfl) trivial ?_
  refine s_callV (a := 0) (a' := 0) (As := [.int (44)]) (id := 79) (st := []) kX12_sign l_12_297 (by decide +kernel) (q_id_of rfl) rfl (Nat.le_of_ble_eq_true rfl) (s_mono h (s_V_of (fun u8 h => ?_)) (fun _ _ h9 => h9))
  show s_Ex (d + 1) 0 mX12_readTwo 21 [some (.ref (79)), some (.int (x1)), some (.int (x2))] [] u8 Q X
  refine s_blk [(.aload_n 0, 1, 0, 0)] 22 [some (.ref (79)), some (.int (x1)), some (.int (x2))] [.ref (79)] u8 [] (by decide +kernel) (by refine qt_aload_n (r := 79) rfl ?_; exact qt_z rfl rfl rfl rfl rfl) trivial ?_
  refine s_callV (a := 0) (a' := 0) (As := []) (id := 79) (st := []) kX12_readSum l_12_319 (by decide +kernel) (q_id_of rfl) rfl (Nat.le_of_ble_eq_true rfl) (s_mono h (s_V_of (fun u10 h => ?_)) (fun _ _ h9 => h9))
  show s_Ex (d + 1) 0 mX12_readTwo 25 [some (.ref (79)), some (.int (x1)), some (.int (x2))] [] u10 Q X
  refine s_blk [(.aload_n 0, 1, 0, 0), (.bipush 93, 2, 0, 0)] 28 [some (.ref (79)), some (.int (x1)), some (.int (x2))] [.int (93), .ref (79)] u10 [] (by decide +kernel) (by refine qt_aload_n (r := 79) rfl ?_; refine qt_bipush qb_93 ?_; exact qt_z rfl rfl rfl rfl rfl) trivial ?_
  refine s_callV (a := 0) (a' := 0) (As := [.int (93)]) (id := 79) (st := []) kX12_sign l_12_297 (by decide +kernel) (q_id_of rfl) rfl (Nat.le_of_ble_eq_true rfl) (s_mono h (s_V_of (fun u12 h => ?_)) (fun _ _ h9 => h9))
  show s_Ex (d + 1) 0 mX12_readTwo 31 [some (.ref (79)), some (.int (x1)), some (.int (x2))] [] u12 Q X
  replace h := h _ rfl
  refine s_blk [(.aload_n 0, 1, 0, 0), (.dup, 1, 0, 0), (.getfield 175, 3, 12, 7), (.iconst 1, 1, 0, 0), (.isub, 1, 0, 0), (.putfield 175, 3, 12, 7), (.aload_n 0, 1, 0, 0), (.iload_n 2, 1, 0, 0), (.iconst 0, 1, 0, 0)] 44 [some (.ref (79)), some (.int (x1)), some (.int (x2))] [.int (0), .int (x2), .ref (79)] (q_wI u12 79 7 ((u12.1 79 7) - 1)) [q_id 116 12 79, q_id 116 12 79] (by decide +kernel) (by refine qt_aload_n (r := 79) rfl ?_; refine qt_dupR ?_; refine qt_getI rfl rfl ?_; refine qt_iconst qc_1 ?_; refine qt_isub ?_; refine qt_putI rfl ?_; refine qt_aload_n (r := 79) rfl ?_; refine qt_iload_n (x := x2) rfl ?_; refine qt_iconst qc_0 ?_; exact qt_z rfl rfl rfl rfl rfl) ⟨(q_id_of rfl), (q_id_of rfl)⟩ ?_
  refine s_callV (a := 0) (a' := 0) (As := [.int (x2), .int (0)]) (id := 79) (st := []) kX12_emit l_12_310 (by decide +kernel) (q_id_of rfl) rfl (Nat.le_of_ble_eq_true rfl) (s_mono h (s_V_of (fun u15 h => ?_)) (fun _ _ h9 => h9))
  show s_Ex (d + 1) 0 mX12_readTwo 47 [some (.ref (79)), some (.int (x1)), some (.int (x2))] [] u15 Q X
  exact s_retV (by decide +kernel) rfl h
theorem eX12_readTwo {d : Nat} {x1 : Int32} {x2 : Int32} {w : q_Sm} {Q : s_Po} {X : s_Xo} (h : vX12_readTwo_0 d x1 x2 w Q X) : s_Ev (d + 1) 0 mX12_readTwo w [.ref (79), .int (x1), .int (x2)] Q X := s_of (by decide +kernel) rfl (Nat.le_of_ble_eq_true rfl) (xX12_readTwo_0 h)
def vX12_factHere_0 (d : Nat)  (w : q_Sm) (Q : s_Po) (X : s_Xo) : Prop := s_EvI d 0 mX12_word w [.ref (79)] (fun v1 u2 => s_EvI d 0 mX12_of u2 [.retAddr (41)] (fun v3 u4 => ((¬ v1 = v3) → s_EvI d 0 mX12_of u4 [.retAddr (42)] (fun v5 u6 => ((¬ v1 = v5) → s_EvI d 0 mX12_of u6 [.retAddr (43)] (fun v7 u8 => ((¬ v1 = v7) → s_EvI d 0 mX12_of u8 [.retAddr (30)] (fun v9 u10 => ((¬ v1 = v9) → s_EvI d 0 mX12_of u10 [.retAddr (44)] (fun v11 u12 => ((¬ v1 = v11) → s_EvI d 0 mX12_of u12 [.retAddr (45)] (fun v13 u14 => ((¬ v1 = v13) → s_EvI d 0 mX12_of u14 [.retAddr (46)] (fun v15 u16 => ((¬ v1 = v15) → Q (some (.int (-1))) u16) ∧ (¬ (¬ v1 = v15) → Q (some (.int (6))) u16)) X) ∧ (¬ (¬ v1 = v13) → Q (some (.int (5))) u14)) X) ∧ (¬ (¬ v1 = v11) → Q (some (.int (4))) u12)) X) ∧ (¬ (¬ v1 = v9) → Q (some (.int (3))) u10)) X) ∧ (¬ (¬ v1 = v7) → Q (some (.int (2))) u8)) X) ∧ (¬ (¬ v1 = v5) → Q (some (.int (1))) u6)) X) ∧ (¬ (¬ v1 = v3) → Q (some (.int (0))) u4)) X) X
theorem xX12_factHere_0 {d : Nat}  {w : q_Sm} {Q : s_Po} {X : s_Xo} (h : vX12_factHere_0 d  w Q X) : s_Ex (d + 1) 0 mX12_factHere 0 [some (.ref (79)), none] [] w Q X := by
  unfold vX12_factHere_0 at h
  refine s_blk [(.aload_n 0, 1, 0, 0)] 1 [some (.ref (79)), none] [.ref (79)] w [] (by decide +kernel) (by refine qt_aload_n (r := 79) rfl ?_; exact qt_z rfl rfl rfl rfl rfl) trivial ?_
  refine s_callV (a := 0) (a' := 0) (As := []) (id := 79) (st := []) kX12_word l_12_231 (by decide +kernel) (q_id_of rfl) rfl (Nat.le_of_ble_eq_true rfl) (s_mono h (s_I_of (fun v1 u2 h => ?_)) (fun _ _ h9 => h9))
  show s_Ex (d + 1) 0 mX12_factHere 4 [some (.ref (79)), none] [.int (v1)] u2 Q X
  refine s_blk [(.istore_n 1, 1, 0, 0), (.iload_n 1, 1, 0, 0), (.ldc_w 322, 3, 1, 41)] 9 [some (.ref (79)), some (.int (v1))] [.retAddr (41), .int (v1)] u2 [] (by decide +kernel) (by refine qt_istore_n (L' := [some (.ref (79)), some (.int (v1))]) rfl ?_; refine qt_iload_n (x := v1) rfl ?_; refine qt_ldcSW ?_; exact qt_z rfl rfl rfl rfl rfl) trivial ?_
  refine s_callS (a := 0) (a' := 0) (As := [.retAddr (41)]) (st := [.int (v1)]) kX12_of l_12_236 (by decide +kernel) rfl (Nat.le_of_ble_eq_true rfl) (s_mono h (s_I_of (fun v3 u4 h => ?_)) (fun _ _ h9 => h9))
  show s_Ex (d + 1) 0 mX12_factHere 12 [some (.ref (79)), some (.int (v1))] [.int (v3), .int (v1)] u4 Q X
  refine s_icmp (cd := .ne) (off := 7) 19 (by decide +kernel) (by decide) (fun hc => ?_) (fun hc => ?_)
  · replace h := h.1 hc
    refine s_blk [(.iload_n 1, 1, 0, 0), (.ldc_w 324, 3, 1, 42)] 23 [some (.ref (79)), some (.int (v1))] [.retAddr (42), .int (v1)] u4 [] (by decide +kernel) (by refine qt_iload_n (x := v1) rfl ?_; refine qt_ldcSW ?_; exact qt_z rfl rfl rfl rfl rfl) trivial ?_
    refine s_callS (a := 0) (a' := 0) (As := [.retAddr (42)]) (st := [.int (v1)]) kX12_of l_12_236 (by decide +kernel) rfl (Nat.le_of_ble_eq_true rfl) (s_mono h (s_I_of (fun v5 u6 h => ?_)) (fun _ _ h9 => h9))
    show s_Ex (d + 1) 0 mX12_factHere 26 [some (.ref (79)), some (.int (v1))] [.int (v5), .int (v1)] u6 Q X
    refine s_icmp (cd := .ne) (off := 7) 33 (by decide +kernel) (by decide) (fun hc => ?_) (fun hc => ?_)
    · replace h := h.1 hc
      refine s_blk [(.iload_n 1, 1, 0, 0), (.ldc_w 326, 3, 1, 43)] 37 [some (.ref (79)), some (.int (v1))] [.retAddr (43), .int (v1)] u6 [] (by decide +kernel) (by refine qt_iload_n (x := v1) rfl ?_; refine qt_ldcSW ?_; exact qt_z rfl rfl rfl rfl rfl) trivial ?_
      refine s_callS (a := 0) (a' := 0) (As := [.retAddr (43)]) (st := [.int (v1)]) kX12_of l_12_236 (by decide +kernel) rfl (Nat.le_of_ble_eq_true rfl) (s_mono h (s_I_of (fun v7 u8 h => ?_)) (fun _ _ h9 => h9))
      show s_Ex (d + 1) 0 mX12_factHere 40 [some (.ref (79)), some (.int (v1))] [.int (v7), .int (v1)] u8 Q X
      refine s_icmp (cd := .ne) (off := 7) 47 (by decide +kernel) (by decide) (fun hc => ?_) (fun hc => ?_)
      · replace h := h.1 hc
        refine s_blk [(.iload_n 1, 1, 0, 0), (.ldc_w 260, 3, 1, 30)] 51 [some (.ref (79)), some (.int (v1))] [.retAddr (30), .int (v1)] u8 [] (by decide +kernel) (by refine qt_iload_n (x := v1) rfl ?_; refine qt_ldcSW ?_; exact qt_z rfl rfl rfl rfl rfl) trivial ?_
        refine s_callS (a := 0) (a' := 0) (As := [.retAddr (30)]) (st := [.int (v1)]) kX12_of l_12_236 (by decide +kernel) rfl (Nat.le_of_ble_eq_true rfl) (s_mono h (s_I_of (fun v9 u10 h => ?_)) (fun _ _ h9 => h9))
        show s_Ex (d + 1) 0 mX12_factHere 54 [some (.ref (79)), some (.int (v1))] [.int (v9), .int (v1)] u10 Q X
        refine s_icmp (cd := .ne) (off := 7) 61 (by decide +kernel) (by decide) (fun hc => ?_) (fun hc => ?_)
        · replace h := h.1 hc
          refine s_blk [(.iload_n 1, 1, 0, 0), (.ldc_w 328, 3, 1, 44)] 65 [some (.ref (79)), some (.int (v1))] [.retAddr (44), .int (v1)] u10 [] (by decide +kernel) (by refine qt_iload_n (x := v1) rfl ?_; refine qt_ldcSW ?_; exact qt_z rfl rfl rfl rfl rfl) trivial ?_
          refine s_callS (a := 0) (a' := 0) (As := [.retAddr (44)]) (st := [.int (v1)]) kX12_of l_12_236 (by decide +kernel) rfl (Nat.le_of_ble_eq_true rfl) (s_mono h (s_I_of (fun v11 u12 h => ?_)) (fun _ _ h9 => h9))
          show s_Ex (d + 1) 0 mX12_factHere 68 [some (.ref (79)), some (.int (v1))] [.int (v11), .int (v1)] u12 Q X
          refine s_icmp (cd := .ne) (off := 7) 75 (by decide +kernel) (by decide) (fun hc => ?_) (fun hc => ?_)
          · replace h := h.1 hc
            refine s_blk [(.iload_n 1, 1, 0, 0), (.ldc_w 330, 3, 1, 45)] 79 [some (.ref (79)), some (.int (v1))] [.retAddr (45), .int (v1)] u12 [] (by decide +kernel) (by refine qt_iload_n (x := v1) rfl ?_; refine qt_ldcSW ?_; exact qt_z rfl rfl rfl rfl rfl) trivial ?_
            refine s_callS (a := 0) (a' := 0) (As := [.retAddr (45)]) (st := [.int (v1)]) kX12_of l_12_236 (by decide +kernel) rfl (Nat.le_of_ble_eq_true rfl) (s_mono h (s_I_of (fun v13 u14 h => ?_)) (fun _ _ h9 => h9))
            show s_Ex (d + 1) 0 mX12_factHere 82 [some (.ref (79)), some (.int (v1))] [.int (v13), .int (v1)] u14 Q X
            refine s_icmp (cd := .ne) (off := 7) 89 (by decide +kernel) (by decide) (fun hc => ?_) (fun hc => ?_)
            · replace h := h.1 hc
              refine s_blk [(.iload_n 1, 1, 0, 0), (.ldc_w 332, 3, 1, 46)] 93 [some (.ref (79)), some (.int (v1))] [.retAddr (46), .int (v1)] u14 [] (by decide +kernel) (by refine qt_iload_n (x := v1) rfl ?_; refine qt_ldcSW ?_; exact qt_z rfl rfl rfl rfl rfl) trivial ?_
              refine s_callS (a := 0) (a' := 0) (As := [.retAddr (46)]) (st := [.int (v1)]) kX12_of l_12_236 (by decide +kernel) rfl (Nat.le_of_ble_eq_true rfl) (s_mono h (s_I_of (fun v15 u16 h => ?_)) (fun _ _ h9 => h9))
              show s_Ex (d + 1) 0 mX12_factHere 96 [some (.ref (79)), some (.int (v1))] [.int (v15), .int (v1)] u16 Q X
              refine s_icmp (cd := .ne) (off := 8) 104 (by decide +kernel) (by decide) (fun hc => ?_) (fun hc => ?_)
              · replace h := h.1 hc
                refine s_blk [(.iconst (-1), 1, 0, 0)] 105 [some (.ref (79)), some (.int (v1))] [.int (-1)] u16 [] (by decide +kernel) (by refine qt_iconst qc_m1 ?_; exact qt_z rfl rfl rfl rfl rfl) trivial ?_
                exact s_retI .int (by decide +kernel) rfl rfl h
              · replace h := h.2 hc
                refine s_blk [(.bipush 6, 2, 0, 0), (.goto 4, 3, 105, 0)] 105 [some (.ref (79)), some (.int (v1))] [.int (6)] u16 [] (by decide +kernel) (by refine qt_bipush qb_6 ?_; refine qt_goto ?_; exact qt_z rfl rfl rfl rfl rfl) trivial ?_
                exact s_retI .int (by decide +kernel) rfl rfl h
            · replace h := h.2 hc
              refine s_blk [(.iconst 5, 1, 0, 0), (.goto 19, 3, 105, 0)] 105 [some (.ref (79)), some (.int (v1))] [.int (5)] u14 [] (by decide +kernel) (by refine qt_iconst qc_5 ?_; refine qt_goto ?_; exact qt_z rfl rfl rfl rfl rfl) trivial ?_
              exact s_retI .int (by decide +kernel) rfl rfl h
          · replace h := h.2 hc
            refine s_blk [(.iconst 4, 1, 0, 0), (.goto 33, 3, 105, 0)] 105 [some (.ref (79)), some (.int (v1))] [.int (4)] u12 [] (by decide +kernel) (by refine qt_iconst qc_4 ?_; refine qt_goto ?_; exact qt_z rfl rfl rfl rfl rfl) trivial ?_
            exact s_retI .int (by decide +kernel) rfl rfl h
        · replace h := h.2 hc
          refine s_blk [(.iconst 3, 1, 0, 0), (.goto 47, 3, 105, 0)] 105 [some (.ref (79)), some (.int (v1))] [.int (3)] u10 [] (by decide +kernel) (by refine qt_iconst qc_3 ?_; refine qt_goto ?_; exact qt_z rfl rfl rfl rfl rfl) trivial ?_
          exact s_retI .int (by decide +kernel) rfl rfl h
      · replace h := h.2 hc
        refine s_blk [(.iconst 2, 1, 0, 0), (.goto 61, 3, 105, 0)] 105 [some (.ref (79)), some (.int (v1))] [.int (2)] u8 [] (by decide +kernel) (by refine qt_iconst qc_2 ?_; refine qt_goto ?_; exact qt_z rfl rfl rfl rfl rfl) trivial ?_
        exact s_retI .int (by decide +kernel) rfl rfl h
    · replace h := h.2 hc
      refine s_blk [(.iconst 1, 1, 0, 0), (.goto 75, 3, 105, 0)] 105 [some (.ref (79)), some (.int (v1))] [.int (1)] u6 [] (by decide +kernel) (by refine qt_iconst qc_1 ?_; refine qt_goto ?_; exact qt_z rfl rfl rfl rfl rfl) trivial ?_
      exact s_retI .int (by decide +kernel) rfl rfl h
  · replace h := h.2 hc
    refine s_blk [(.iconst 0, 1, 0, 0), (.goto 89, 3, 105, 0)] 105 [some (.ref (79)), some (.int (v1))] [.int (0)] u4 [] (by decide +kernel) (by refine qt_iconst qc_0 ?_; refine qt_goto ?_; exact qt_z rfl rfl rfl rfl rfl) trivial ?_
    exact s_retI .int (by decide +kernel) rfl rfl h
theorem eX12_factHere {d : Nat}  {w : q_Sm} {Q : s_Po} {X : s_Xo} (h : vX12_factHere_0 d  w Q X) : s_Ev (d + 1) 0 mX12_factHere w [.ref (79)] Q X := s_of (by decide +kernel) rfl (Nat.le_of_ble_eq_true rfl) (xX12_factHere_0 h)
def vX12_readUnit_0 (d : Nat)  (w : q_Sm) (Q : s_Po) (X : s_Xo) : Prop := s_EvI d 0 mX12_fine w [.ref (79)] (fun v1 u2 => ((¬ v1 = 0) → s_EvI d 0 mX12_here u2 [.ref (79)] (fun v3 u4 => ((¬ v3 = 40) → s_EvI d 0 mX12_here u4 [.ref (79)] (fun v5 u6 => s_EvI d 0 mX12_isDigit u6 [.int (v5)] (fun v7 u8 => ((v7 = 0) → s_EvI d 0 mX12_word u8 [.ref (79)] (fun v9 u10 => s_EvI d 0 mX12_of u10 [.retAddr (39)] (fun v11 u12 => ((¬ v9 = v11) → s_EvI d 0 mX12_word u12 [.ref (79)] (fun v13 u14 => s_EvI d 0 mX12_of u14 [.retAddr (40)] (fun v15 u16 => ((¬ v13 = v15) → s_EvI d 0 mX12_factHere u16 [.ref (79)] (fun v17 u18 => ((¬ v17 = (-1)) → s_EvI d 0 mX12_fine u18 [.ref (79)] (fun v19 u20 => ((¬ v19 = 0) → s_EvV d 0 mX12_pass u20 [.ref (79)] (fun u22 => s_EvV d 0 mX12_emit u22 [.ref (79), .int (1), .int (v17)] (fun u24 => Q none u24) X) X) ∧ (¬ (¬ v19 = 0) → Q none u20)) X) ∧ (¬ (¬ v17 = (-1)) → s_EvV d 0 mX12_wrong u18 [.ref (79), .int (1), .int (u18.1 79 4)] (fun u26 => s_EvI d 0 mX12_fine u26 [.ref (79)] (fun v27 u28 => ((¬ v27 = 0) → s_EvV d 0 mX12_pass u28 [.ref (79)] (fun u30 => s_EvV d 0 mX12_emit u30 [.ref (79), .int (1), .int (v17)] (fun u32 => Q none u32) X) X) ∧ (¬ (¬ v27 = 0) → Q none u28)) X) X)) X) ∧ (¬ (¬ v13 = v15) → s_EvV d 0 mX12_readTwo u16 [.ref (79), .int (4), .int (7)] (fun u34 => Q none u34) X)) X) X) ∧ (¬ (¬ v9 = v11) → s_EvV d 0 mX12_readTwo u12 [.ref (79), .int (5), .int (6)] (fun u36 => Q none u36) X)) X) X) ∧ (¬ (v7 = 0) → s_EvI d 0 mX12_readNumber u8 [.ref (79), .int (0), .int (999)] (fun v37 u38 => s_EvV d 0 mX12_emit u38 [.ref (79), .int (0), .int (v37)] (fun u40 => Q none u40) X) X)) X) X) ∧ (¬ (¬ v3 = 40) → s_EvV d 0 mX12_opensOne u4 [.ref (79), .int (1)] (fun u42 => s_EvV d 0 mX12_readSum u42 [.ref (79)] (fun u44 => s_EvV d 0 mX12_sign u44 [.ref (79), .int (41)] (fun u46 => ∀ w_47 : q_Sm, w_47 = q_wI u46 79 7 ((u46.1 79 7) - 1) → Q none w_47) X) X) X)) X) ∧ (¬ (¬ v1 = 0) → Q none u2)) X
theorem xX12_readUnit_0 {d : Nat}  {w : q_Sm} {Q : s_Po} {X : s_Xo} (h : vX12_readUnit_0 d  w Q X) : s_Ex (d + 1) 0 mX12_readUnit 0 [some (.ref (79)), none] [] w Q X := by
  unfold vX12_readUnit_0 at h
  refine s_blk [(.aload_n 0, 1, 0, 0)] 1 [some (.ref (79)), none] [.ref (79)] w [] (by decide +kernel) (by refine qt_aload_n (r := 79) rfl ?_; exact qt_z rfl rfl rfl rfl rfl) trivial ?_
  refine s_callV (a := 0) (a' := 0) (As := []) (id := 79) (st := []) kX12_fine l_12_164 (by decide +kernel) (q_id_of rfl) rfl (Nat.le_of_ble_eq_true rfl) (s_mono h (s_I_of (fun v1 u2 h => ?_)) (fun _ _ h9 => h9))
  show s_Ex (d + 1) 0 mX12_readUnit 4 [some (.ref (79)), none] [.int (v1)] u2 Q X
  refine s_if (cd := .ne) (off := 4) 8 (by decide +kernel) (by decide) (fun hc => ?_) (fun hc => ?_)
  · replace h := h.1 hc
    refine s_blk [(.aload_n 0, 1, 0, 0)] 9 [some (.ref (79)), none] [.ref (79)] u2 [] (by decide +kernel) (by refine qt_aload_n (r := 79) rfl ?_; exact qt_z rfl rfl rfl rfl rfl) trivial ?_
    refine s_callV (a := 0) (a' := 0) (As := []) (id := 79) (st := []) kX12_here l_12_147 (by decide +kernel) (q_id_of rfl) rfl (Nat.le_of_ble_eq_true rfl) (s_mono h (s_I_of (fun v3 u4 h => ?_)) (fun _ _ h9 => h9))
    show s_Ex (d + 1) 0 mX12_readUnit 12 [some (.ref (79)), none] [.int (v3)] u4 Q X
    refine s_blk [(.bipush 40, 2, 0, 0)] 14 [some (.ref (79)), none] [.int (40), .int (v3)] u4 [] (by decide +kernel) (by refine qt_bipush qb_40 ?_; exact qt_z rfl rfl rfl rfl rfl) trivial ?_
    refine s_icmp (cd := .ne) (off := 31) 45 (by decide +kernel) (by decide) (fun hc => ?_) (fun hc => ?_)
    · replace h := h.1 hc
      refine s_blk [(.aload_n 0, 1, 0, 0)] 46 [some (.ref (79)), none] [.ref (79)] u4 [] (by decide +kernel) (by refine qt_aload_n (r := 79) rfl ?_; exact qt_z rfl rfl rfl rfl rfl) trivial ?_
      refine s_callV (a := 0) (a' := 0) (As := []) (id := 79) (st := []) kX12_here l_12_147 (by decide +kernel) (q_id_of rfl) rfl (Nat.le_of_ble_eq_true rfl) (s_mono h (s_I_of (fun v5 u6 h => ?_)) (fun _ _ h9 => h9))
      show s_Ex (d + 1) 0 mX12_readUnit 49 [some (.ref (79)), none] [.int (v5)] u6 Q X
      refine s_callS (a := 0) (a' := 0) (As := [.int (v5)]) (st := []) kX12_isDigit l_12_168 (by decide +kernel) rfl (Nat.le_of_ble_eq_true rfl) (s_mono h (s_I_of (fun v7 u8 h => ?_)) (fun _ _ h9 => h9))
      show s_Ex (d + 1) 0 mX12_readUnit 52 [some (.ref (79)), none] [.int (v7)] u8 Q X
      refine s_if (cd := .eq) (off := 19) 71 (by decide +kernel) (by decide) (fun hc => ?_) (fun hc => ?_)
      · replace h := h.1 hc
        refine s_blk [(.aload_n 0, 1, 0, 0)] 72 [some (.ref (79)), none] [.ref (79)] u8 [] (by decide +kernel) (by refine qt_aload_n (r := 79) rfl ?_; exact qt_z rfl rfl rfl rfl rfl) trivial ?_
        refine s_callV (a := 0) (a' := 0) (As := []) (id := 79) (st := []) kX12_word l_12_231 (by decide +kernel) (q_id_of rfl) rfl (Nat.le_of_ble_eq_true rfl) (s_mono h (s_I_of (fun v9 u10 h => ?_)) (fun _ _ h9 => h9))
        show s_Ex (d + 1) 0 mX12_readUnit 75 [some (.ref (79)), none] [.int (v9)] u10 Q X
        refine s_blk [(.ldc_w 334, 3, 1, 39)] 78 [some (.ref (79)), none] [.retAddr (39), .int (v9)] u10 [] (by decide +kernel) (by refine qt_ldcSW ?_; exact qt_z rfl rfl rfl rfl rfl) trivial ?_
        refine s_callS (a := 0) (a' := 0) (As := [.retAddr (39)]) (st := [.int (v9)]) kX12_of l_12_236 (by decide +kernel) rfl (Nat.le_of_ble_eq_true rfl) (s_mono h (s_I_of (fun v11 u12 h => ?_)) (fun _ _ h9 => h9))
        show s_Ex (d + 1) 0 mX12_readUnit 81 [some (.ref (79)), none] [.int (v11), .int (v9)] u12 Q X
        refine s_icmp (cd := .ne) (off := 13) 94 (by decide +kernel) (by decide) (fun hc => ?_) (fun hc => ?_)
        · replace h := h.1 hc
          refine s_blk [(.aload_n 0, 1, 0, 0)] 95 [some (.ref (79)), none] [.ref (79)] u12 [] (by decide +kernel) (by refine qt_aload_n (r := 79) rfl ?_; exact qt_z rfl rfl rfl rfl rfl) trivial ?_
          refine s_callV (a := 0) (a' := 0) (As := []) (id := 79) (st := []) kX12_word l_12_231 (by decide +kernel) (q_id_of rfl) rfl (Nat.le_of_ble_eq_true rfl) (s_mono h (s_I_of (fun v13 u14 h => ?_)) (fun _ _ h9 => h9))
          show s_Ex (d + 1) 0 mX12_readUnit 98 [some (.ref (79)), none] [.int (v13)] u14 Q X
          refine s_blk [(.ldc_w 339, 3, 1, 40)] 101 [some (.ref (79)), none] [.retAddr (40), .int (v13)] u14 [] (by decide +kernel) (by refine qt_ldcSW ?_; exact qt_z rfl rfl rfl rfl rfl) trivial ?_
          refine s_callS (a := 0) (a' := 0) (As := [.retAddr (40)]) (st := [.int (v13)]) kX12_of l_12_236 (by decide +kernel) rfl (Nat.le_of_ble_eq_true rfl) (s_mono h (s_I_of (fun v15 u16 h => ?_)) (fun _ _ h9 => h9))
          show s_Ex (d + 1) 0 mX12_readUnit 104 [some (.ref (79)), none] [.int (v15), .int (v13)] u16 Q X
          refine s_icmp (cd := .ne) (off := 13) 117 (by decide +kernel) (by decide) (fun hc => ?_) (fun hc => ?_)
          · replace h := h.1 hc
            refine s_blk [(.aload_n 0, 1, 0, 0)] 118 [some (.ref (79)), none] [.ref (79)] u16 [] (by decide +kernel) (by refine qt_aload_n (r := 79) rfl ?_; exact qt_z rfl rfl rfl rfl rfl) trivial ?_
            refine s_callV (a := 0) (a' := 0) (As := []) (id := 79) (st := []) kX12_factHere l_12_341 (by decide +kernel) (q_id_of rfl) rfl (Nat.le_of_ble_eq_true rfl) (s_mono h (s_I_of (fun v17 u18 h => ?_)) (fun _ _ h9 => h9))
            show s_Ex (d + 1) 0 mX12_readUnit 121 [some (.ref (79)), none] [.int (v17)] u18 Q X
            refine s_blk [(.istore_n 1, 1, 0, 0), (.iload_n 1, 1, 0, 0), (.iconst (-1), 1, 0, 0)] 124 [some (.ref (79)), some (.int (v17))] [.int (-1), .int (v17)] u18 [] (by decide +kernel) (by refine qt_istore_n (L' := [some (.ref (79)), some (.int (v17))]) rfl ?_; refine qt_iload_n (x := v17) rfl ?_; refine qt_iconst qc_m1 ?_; exact qt_z rfl rfl rfl rfl rfl) trivial ?_
            refine s_icmp (cd := .ne) (off := 12) 136 (by decide +kernel) (by decide) (fun hc => ?_) (fun hc => ?_)
            · replace h := h.1 hc
              refine s_blk [(.aload_n 0, 1, 0, 0)] 137 [some (.ref (79)), some (.int (v17))] [.ref (79)] u18 [] (by decide +kernel) (by refine qt_aload_n (r := 79) rfl ?_; exact qt_z rfl rfl rfl rfl rfl) trivial ?_
              refine s_callV (a := 0) (a' := 0) (As := []) (id := 79) (st := []) kX12_fine l_12_164 (by decide +kernel) (q_id_of rfl) rfl (Nat.le_of_ble_eq_true rfl) (s_mono h (s_I_of (fun v19 u20 h => ?_)) (fun _ _ h9 => h9))
              show s_Ex (d + 1) 0 mX12_readUnit 140 [some (.ref (79)), some (.int (v17))] [.int (v19)] u20 Q X
              refine s_if (cd := .ne) (off := 4) 144 (by decide +kernel) (by decide) (fun hc => ?_) (fun hc => ?_)
              · replace h := h.1 hc
                refine s_blk [(.aload_n 0, 1, 0, 0)] 145 [some (.ref (79)), some (.int (v17))] [.ref (79)] u20 [] (by decide +kernel) (by refine qt_aload_n (r := 79) rfl ?_; exact qt_z rfl rfl rfl rfl rfl) trivial ?_
                refine s_callV (a := 0) (a' := 0) (As := []) (id := 79) (st := []) kX12_pass l_12_249 (by decide +kernel) (q_id_of rfl) rfl (Nat.le_of_ble_eq_true rfl) (s_mono h (s_V_of (fun u22 h => ?_)) (fun _ _ h9 => h9))
                show s_Ex (d + 1) 0 mX12_readUnit 148 [some (.ref (79)), some (.int (v17))] [] u22 Q X
                refine s_blk [(.aload_n 0, 1, 0, 0), (.iconst 1, 1, 0, 0), (.iload_n 1, 1, 0, 0)] 151 [some (.ref (79)), some (.int (v17))] [.int (v17), .int (1), .ref (79)] u22 [] (by decide +kernel) (by refine qt_aload_n (r := 79) rfl ?_; refine qt_iconst qc_1 ?_; refine qt_iload_n (x := v17) rfl ?_; exact qt_z rfl rfl rfl rfl rfl) trivial ?_
                refine s_callV (a := 0) (a' := 0) (As := [.int (1), .int (v17)]) (id := 79) (st := []) kX12_emit l_12_310 (by decide +kernel) (q_id_of rfl) rfl (Nat.le_of_ble_eq_true rfl) (s_mono h (s_V_of (fun u24 h => ?_)) (fun _ _ h9 => h9))
                show s_Ex (d + 1) 0 mX12_readUnit 154 [some (.ref (79)), some (.int (v17))] [] u24 Q X
                exact s_retV (by decide +kernel) rfl h
              · replace h := h.2 hc
                exact s_retV (by decide +kernel) rfl h
            · replace h := h.2 hc
              refine s_blk [(.aload_n 0, 1, 0, 0), (.iconst 1, 1, 0, 0), (.aload_n 0, 1, 0, 0), (.getfield 141, 3, 12, 4)] 133 [some (.ref (79)), some (.int (v17))] [.int (u18.1 79 4), .int (1), .ref (79)] u18 [q_id 116 12 79] (by decide +kernel) (by refine qt_aload_n (r := 79) rfl ?_; refine qt_iconst qc_1 ?_; refine qt_aload_n (r := 79) rfl ?_; refine qt_getI rfl rfl ?_; exact qt_z rfl rfl rfl rfl rfl) (q_id_of rfl) ?_
              refine s_callV (a := 0) (a' := 0) (As := [.int (1), .int (u18.1 79 4)]) (id := 79) (st := []) kX12_wrong l_12_171 (by decide +kernel) (q_id_of rfl) rfl (Nat.le_of_ble_eq_true rfl) (s_mono h (s_V_of (fun u26 h => ?_)) (fun _ _ h9 => h9))
              show s_Ex (d + 1) 0 mX12_readUnit 136 [some (.ref (79)), some (.int (v17))] [] u26 Q X
              refine s_blk [(.aload_n 0, 1, 0, 0)] 137 [some (.ref (79)), some (.int (v17))] [.ref (79)] u26 [] (by decide +kernel) (by refine qt_aload_n (r := 79) rfl ?_; exact qt_z rfl rfl rfl rfl rfl) trivial ?_
              refine s_callV (a := 0) (a' := 0) (As := []) (id := 79) (st := []) kX12_fine l_12_164 (by decide +kernel) (q_id_of rfl) rfl (Nat.le_of_ble_eq_true rfl) (s_mono h (s_I_of (fun v27 u28 h => ?_)) (fun _ _ h9 => h9))
              show s_Ex (d + 1) 0 mX12_readUnit 140 [some (.ref (79)), some (.int (v17))] [.int (v27)] u28 Q X
              refine s_if (cd := .ne) (off := 4) 144 (by decide +kernel) (by decide) (fun hc => ?_) (fun hc => ?_)
              · replace h := h.1 hc
                refine s_blk [(.aload_n 0, 1, 0, 0)] 145 [some (.ref (79)), some (.int (v17))] [.ref (79)] u28 [] (by decide +kernel) (by refine qt_aload_n (r := 79) rfl ?_; exact qt_z rfl rfl rfl rfl rfl) trivial ?_
                refine s_callV (a := 0) (a' := 0) (As := []) (id := 79) (st := []) kX12_pass l_12_249 (by decide +kernel) (q_id_of rfl) rfl (Nat.le_of_ble_eq_true rfl) (s_mono h (s_V_of (fun u30 h => ?_)) (fun _ _ h9 => h9))
                show s_Ex (d + 1) 0 mX12_readUnit 148 [some (.ref (79)), some (.int (v17))] [] u30 Q X
                refine s_blk [(.aload_n 0, 1, 0, 0), (.iconst 1, 1, 0, 0), (.iload_n 1, 1, 0, 0)] 151 [some (.ref (79)), some (.int (v17))] [.int (v17), .int (1), .ref (79)] u30 [] (by decide +kernel) (by refine qt_aload_n (r := 79) rfl ?_; refine qt_iconst qc_1 ?_; refine qt_iload_n (x := v17) rfl ?_; exact qt_z rfl rfl rfl rfl rfl) trivial ?_
                refine s_callV (a := 0) (a' := 0) (As := [.int (1), .int (v17)]) (id := 79) (st := []) kX12_emit l_12_310 (by decide +kernel) (q_id_of rfl) rfl (Nat.le_of_ble_eq_true rfl) (s_mono h (s_V_of (fun u32 h => ?_)) (fun _ _ h9 => h9))
                show s_Ex (d + 1) 0 mX12_readUnit 154 [some (.ref (79)), some (.int (v17))] [] u32 Q X
                exact s_retV (by decide +kernel) rfl h
              · replace h := h.2 hc
                exact s_retV (by decide +kernel) rfl h
          · replace h := h.2 hc
            refine s_blk [(.aload_n 0, 1, 0, 0), (.iconst 4, 1, 0, 0), (.bipush 7, 2, 0, 0)] 111 [some (.ref (79)), none] [.int (7), .int (4), .ref (79)] u16 [] (by decide +kernel) (by refine qt_aload_n (r := 79) rfl ?_; refine qt_iconst qc_4 ?_; refine qt_bipush qb_7 ?_; exact qt_z rfl rfl rfl rfl rfl) trivial ?_
            refine s_callV (a := 0) (a' := 0) (As := [.int (4), .int (7)]) (id := 79) (st := []) kX12_readTwo l_12_336 (by decide +kernel) (q_id_of rfl) rfl (Nat.le_of_ble_eq_true rfl) (s_mono h (s_V_of (fun u34 h => ?_)) (fun _ _ h9 => h9))
            show s_Ex (d + 1) 0 mX12_readUnit 114 [some (.ref (79)), none] [] u34 Q X
            refine s_blk [(.goto 40, 3, 154, 0)] 154 [some (.ref (79)), none] [] u34 [] (by decide +kernel) (by refine qt_goto ?_; exact qt_z rfl rfl rfl rfl rfl) trivial ?_
            exact s_retV (by decide +kernel) rfl h
        · replace h := h.2 hc
          refine s_blk [(.aload_n 0, 1, 0, 0), (.iconst 5, 1, 0, 0), (.bipush 6, 2, 0, 0)] 88 [some (.ref (79)), none] [.int (6), .int (5), .ref (79)] u12 [] (by decide +kernel) (by refine qt_aload_n (r := 79) rfl ?_; refine qt_iconst qc_5 ?_; refine qt_bipush qb_6 ?_; exact qt_z rfl rfl rfl rfl rfl) trivial ?_
          refine s_callV (a := 0) (a' := 0) (As := [.int (5), .int (6)]) (id := 79) (st := []) kX12_readTwo l_12_336 (by decide +kernel) (q_id_of rfl) rfl (Nat.le_of_ble_eq_true rfl) (s_mono h (s_V_of (fun u36 h => ?_)) (fun _ _ h9 => h9))
          show s_Ex (d + 1) 0 mX12_readUnit 91 [some (.ref (79)), none] [] u36 Q X
          refine s_blk [(.goto 63, 3, 154, 0)] 154 [some (.ref (79)), none] [] u36 [] (by decide +kernel) (by refine qt_goto ?_; exact qt_z rfl rfl rfl rfl rfl) trivial ?_
          exact s_retV (by decide +kernel) rfl h
      · replace h := h.2 hc
        refine s_blk [(.aload_n 0, 1, 0, 0), (.iconst 0, 1, 0, 0), (.aload_n 0, 1, 0, 0), (.iconst 0, 1, 0, 0), (.sipush 999, 3, 0, 0)] 62 [some (.ref (79)), none] [.int (999), .int (0), .ref (79), .int (0), .ref (79)] u8 [] (by decide +kernel) (by refine qt_aload_n (r := 79) rfl ?_; refine qt_iconst qc_0 ?_; refine qt_aload_n (r := 79) rfl ?_; refine qt_iconst qc_0 ?_; refine qt_sipush qs_999 ?_; exact qt_z rfl rfl rfl rfl rfl) trivial ?_
        refine s_callV (a := 0) (a' := 0) (As := [.int (0), .int (999)]) (id := 79) (st := [.int (0), .ref (79)]) kX12_readNumber l_12_254 (by decide +kernel) (q_id_of rfl) rfl (Nat.le_of_ble_eq_true rfl) (s_mono h (s_I_of (fun v37 u38 h => ?_)) (fun _ _ h9 => h9))
        show s_Ex (d + 1) 0 mX12_readUnit 65 [some (.ref (79)), none] [.int (v37), .int (0), .ref (79)] u38 Q X
        refine s_callV (a := 0) (a' := 0) (As := [.int (0), .int (v37)]) (id := 79) (st := []) kX12_emit l_12_310 (by decide +kernel) (q_id_of rfl) rfl (Nat.le_of_ble_eq_true rfl) (s_mono h (s_V_of (fun u40 h => ?_)) (fun _ _ h9 => h9))
        show s_Ex (d + 1) 0 mX12_readUnit 68 [some (.ref (79)), none] [] u40 Q X
        refine s_blk [(.goto 86, 3, 154, 0)] 154 [some (.ref (79)), none] [] u40 [] (by decide +kernel) (by refine qt_goto ?_; exact qt_z rfl rfl rfl rfl rfl) trivial ?_
        exact s_retV (by decide +kernel) rfl h
    · replace h := h.2 hc
      refine s_blk [(.aload_n 0, 1, 0, 0), (.iconst 1, 1, 0, 0)] 19 [some (.ref (79)), none] [.int (1), .ref (79)] u4 [] (by decide +kernel) (by refine qt_aload_n (r := 79) rfl ?_; refine qt_iconst qc_1 ?_; exact qt_z rfl rfl rfl rfl rfl) trivial ?_
      refine s_callV (a := 0) (a' := 0) (As := [.int (1)]) (id := 79) (st := []) kX12_opensOne l_12_316 (by decide +kernel) (q_id_of rfl) rfl (Nat.le_of_ble_eq_true rfl) (s_mono h (s_V_of (fun u42 h => ?_)) (fun _ _ h9 => h9))
      show s_Ex (d + 1) 0 mX12_readUnit 22 [some (.ref (79)), none] [] u42 Q X
      refine s_blk [(.aload_n 0, 1, 0, 0)] 23 [some (.ref (79)), none] [.ref (79)] u42 [] (by decide +kernel) (by refine qt_aload_n (r := 79) rfl ?_; exact qt_z rfl rfl rfl rfl rfl) trivial ?_
      refine s_callV (a := 0) (a' := 0) (As := []) (id := 79) (st := []) kX12_readSum l_12_319 (by decide +kernel) (q_id_of rfl) rfl (Nat.le_of_ble_eq_true rfl) (s_mono h (s_V_of (fun u44 h => ?_)) (fun _ _ h9 => h9))
      show s_Ex (d + 1) 0 mX12_readUnit 26 [some (.ref (79)), none] [] u44 Q X
      refine s_blk [(.aload_n 0, 1, 0, 0), (.bipush 41, 2, 0, 0)] 29 [some (.ref (79)), none] [.int (41), .ref (79)] u44 [] (by decide +kernel) (by refine qt_aload_n (r := 79) rfl ?_; refine qt_bipush qb_41 ?_; exact qt_z rfl rfl rfl rfl rfl) trivial ?_
      refine s_callV (a := 0) (a' := 0) (As := [.int (41)]) (id := 79) (st := []) kX12_sign l_12_297 (by decide +kernel) (q_id_of rfl) rfl (Nat.le_of_ble_eq_true rfl) (s_mono h (s_V_of (fun u46 h => ?_)) (fun _ _ h9 => h9))
      show s_Ex (d + 1) 0 mX12_readUnit 32 [some (.ref (79)), none] [] u46 Q X
      replace h := h _ rfl
      refine s_blk [(.aload_n 0, 1, 0, 0), (.dup, 1, 0, 0), (.getfield 175, 3, 12, 7), (.iconst 1, 1, 0, 0), (.isub, 1, 0, 0), (.putfield 175, 3, 12, 7), (.goto 112, 3, 154, 0)] 154 [some (.ref (79)), none] [] (q_wI u46 79 7 ((u46.1 79 7) - 1)) [q_id 116 12 79, q_id 116 12 79] (by decide +kernel) (by refine qt_aload_n (r := 79) rfl ?_; refine qt_dupR ?_; refine qt_getI rfl rfl ?_; refine qt_iconst qc_1 ?_; refine qt_isub ?_; refine qt_putI rfl ?_; refine qt_goto ?_; exact qt_z rfl rfl rfl rfl rfl) ⟨(q_id_of rfl), (q_id_of rfl)⟩ ?_
      exact s_retV (by decide +kernel) rfl h
  · replace h := h.2 hc
    exact s_retV (by decide +kernel) rfl h
theorem eX12_readUnit {d : Nat}  {w : q_Sm} {Q : s_Po} {X : s_Xo} (h : vX12_readUnit_0 d  w Q X) : s_Ev (d + 1) 0 mX12_readUnit w [.ref (79)] Q X := s_of (by decide +kernel) rfl (Nat.le_of_ble_eq_true rfl) (xX12_readUnit_0 h)
