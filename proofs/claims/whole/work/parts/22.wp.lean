def vX12_emit_0 (d : Nat) (x1 : Int32) (x2 : Int32) (w : q_Sm) (Q : s_Po) (X : s_Xo) : Prop := s_EvI d 0 mX12_fine w [.ref (79)] (fun v1 u2 => ((¬ v1 = 0) → (vp_in (u2.1 79 39) 150) ∧ ∀ w_3 : q_Sm, w_3 = q_wI u2 96 (Int32.toNatClampNeg (u2.1 79 39)) x1 → (vp_in (w_3.1 79 39) 150) ∧ ∀ w_4 : q_Sm, w_4 = q_wI w_3 97 (Int32.toNatClampNeg (w_3.1 79 39)) x2 → ∀ w_5 : q_Sm, w_5 = q_wI w_4 79 39 ((w_4.1 79 39) + 1) → Q none w_5) ∧ (¬ (¬ v1 = 0) → Q none u2)) X
theorem xX12_emit_0 {d : Nat} {x1 : Int32} {x2 : Int32} {w : q_Sm} {Q : s_Po} {X : s_Xo} (h : vX12_emit_0 d x1 x2 w Q X) : s_Ex (d + 1) 0 mX12_emit 0 [some (.ref (79)), some (.int (x1)), some (.int (x2))] [] w Q X := by
  unfold vX12_emit_0 at h
  refine s_blk [(.aload_n 0, 1, 0, 0)] 1 [some (.ref (79)), some (.int (x1)), some (.int (x2))] [.ref (79)] w [] (by decide +kernel) (by refine qt_aload_n (r := 79) rfl ?_; exact qt_z rfl rfl rfl rfl rfl) trivial ?_
  refine s_callV (a := 0) (a' := 0) (As := []) (id := 79) (st := []) kX12_fine l_12_164 (by decide +kernel) (q_id_of rfl) rfl (Nat.le_of_ble_eq_true rfl) (s_mono h (s_I_of (fun v1 u2 h => ?_)) (fun _ _ h9 => h9))
  show s_Ex (d + 1) 0 mX12_emit 4 [some (.ref (79)), some (.int (x1)), some (.int (x2))] [.int (v1)] u2 Q X
  refine s_if (cd := .ne) (off := 4) 8 (by decide +kernel) (by decide) (fun hc => ?_) (fun hc => ?_)
  · replace h := h.1 hc
    obtain ⟨ho6, h⟩ := h
    replace h := h _ rfl
    obtain ⟨ho7, h⟩ := h
    replace h := h _ rfl
    replace h := h _ rfl
    refine s_blk [(.aload_n 0, 1, 0, 0), (.getfield 65, 3, 12, 34), (.aload_n 0, 1, 0, 0), (.getfield 304, 3, 12, 39), (.iload_n 1, 1, 0, 0), (.iastore, 1, 0, 0), (.aload_n 0, 1, 0, 0), (.getfield 68, 3, 12, 35), (.aload_n 0, 1, 0, 0), (.getfield 304, 3, 12, 39), (.iload_n 2, 1, 0, 0), (.iastore, 1, 0, 0), (.aload_n 0, 1, 0, 0), (.dup, 1, 0, 0), (.getfield 304, 3, 12, 39), (.iconst 1, 1, 0, 0), (.iadd, 1, 0, 0), (.putfield 304, 3, 12, 39)] 38 [some (.ref (79)), some (.int (x1)), some (.int (x2))] [] (q_wI (q_wI (q_wI u2 96 (Int32.toNatClampNeg (u2.1 79 39)) x1) 97 (Int32.toNatClampNeg ((q_wI u2 96 (Int32.toNatClampNeg (u2.1 79 39)) x1).1 79 39)) x2) 79 39 (((q_wI (q_wI u2 96 (Int32.toNatClampNeg (u2.1 79 39)) x1) 97 (Int32.toNatClampNeg ((q_wI u2 96 (Int32.toNatClampNeg (u2.1 79 39)) x1).1 79 39)) x2).1 79 39) + 1)) [q_id 116 12 79, q_id 116 12 79, q_id 116 14 96, vp_in (u2.1 79 39) 150, q_id 116 12 79, q_id 116 12 79, q_id 116 14 97, vp_in ((q_wI u2 96 (Int32.toNatClampNeg (u2.1 79 39)) x1).1 79 39) 150, q_id 116 12 79, q_id 116 12 79] (by decide +kernel) (by refine qt_aload_n (r := 79) rfl ?_; refine qt_getR (r := 96) rfl rfl ?_; refine qt_aload_n (r := 79) rfl ?_; refine qt_getI rfl ?_; refine qt_iload_n (x := x1) rfl ?_; refine qt_iast ?_; refine qt_aload_n (r := 79) rfl ?_; refine qt_getR (r := 97) rfl rfl ?_; refine qt_aload_n (r := 79) rfl ?_; refine qt_getI rfl ?_; refine qt_iload_n (x := x2) rfl ?_; refine qt_iast ?_; refine qt_aload_n (r := 79) rfl ?_; refine qt_dupR ?_; refine qt_getI rfl ?_; refine qt_iconst qc_1 ?_; refine qt_iadd ?_; refine qt_putI rfl ?_; exact qt_z rfl rfl rfl rfl rfl) ⟨(q_id_of rfl), (q_id_of rfl), (q_id_of rfl), ho6, (q_id_of rfl), (q_id_of rfl), (q_id_of rfl), ho7, (q_id_of rfl), (q_id_of rfl)⟩ ?_
    exact s_retV (by decide +kernel) rfl h
  · replace h := h.2 hc
    exact s_retV (by decide +kernel) rfl h
theorem eX12_emit {d : Nat} {x1 : Int32} {x2 : Int32} {w : q_Sm} {Q : s_Po} {X : s_Xo} (h : vX12_emit_0 d x1 x2 w Q X) : s_Ev (d + 1) 0 mX12_emit w [.ref (79), .int (x1), .int (x2)] Q X := s_of (by decide) rfl (Nat.le_of_ble_eq_true rfl) (xX12_emit_0 h)
def vX12_opensOne_0 (d : Nat) (x1 : Int32) (w : q_Sm) (Q : s_Po) (X : s_Xo) : Prop := s_EvI d 0 mX12_fine w [.ref (79)] (fun v1 u2 => ((v1 = 0) → s_EvI d 0 mX12_fine u2 [.ref (79)] (fun v3 u4 => ((v3 = 0) → ∀ w_5 : q_Sm, w_5 = q_wI u4 79 7 ((u4.1 79 7) + 1) → Q none w_5) ∧ (¬ (v3 = 0) → ∀ w_6 : q_Sm, w_6 = q_wI u4 79 4 ((u4.1 79 4) + x1) → ∀ w_7 : q_Sm, w_7 = q_wI w_6 79 7 ((w_6.1 79 7) + 1) → Q none w_7)) X) ∧ (¬ (v1 = 0) → ((¬ (u2.1 79 7) = 6) → s_EvI d 0 mX12_fine u2 [.ref (79)] (fun v8 u9 => ((v8 = 0) → ∀ w_10 : q_Sm, w_10 = q_wI u9 79 7 ((u9.1 79 7) + 1) → Q none w_10) ∧ (¬ (v8 = 0) → ∀ w_11 : q_Sm, w_11 = q_wI u9 79 4 ((u9.1 79 4) + x1) → ∀ w_12 : q_Sm, w_12 = q_wI w_11 79 7 ((w_11.1 79 7) + 1) → Q none w_12)) X) ∧ (¬ (¬ (u2.1 79 7) = 6) → s_EvV d 0 mX12_wrong u2 [.ref (79), .int (3), .int (u2.1 79 4)] (fun u14 => s_EvI d 0 mX12_fine u14 [.ref (79)] (fun v15 u16 => ((v15 = 0) → ∀ w_17 : q_Sm, w_17 = q_wI u16 79 7 ((u16.1 79 7) + 1) → Q none w_17) ∧ (¬ (v15 = 0) → ∀ w_18 : q_Sm, w_18 = q_wI u16 79 4 ((u16.1 79 4) + x1) → ∀ w_19 : q_Sm, w_19 = q_wI w_18 79 7 ((w_18.1 79 7) + 1) → Q none w_19)) X) X))) X
theorem xX12_opensOne_0 {d : Nat} {x1 : Int32} {w : q_Sm} {Q : s_Po} {X : s_Xo} (h : vX12_opensOne_0 d x1 w Q X) : s_Ex (d + 1) 0 mX12_opensOne 0 [some (.ref (79)), some (.int (x1))] [] w Q X := by
  unfold vX12_opensOne_0 at h
  refine s_blk [(.aload_n 0, 1, 0, 0)] 1 [some (.ref (79)), some (.int (x1))] [.ref (79)] w [] (by decide +kernel) (by refine qt_aload_n (r := 79) rfl ?_; exact qt_z rfl rfl rfl rfl rfl) trivial ?_
  refine s_callV (a := 0) (a' := 0) (As := []) (id := 79) (st := []) kX12_fine l_12_164 (by decide +kernel) (q_id_of rfl) rfl (Nat.le_of_ble_eq_true rfl) (s_mono h (s_I_of (fun v1 u2 h => ?_)) (fun _ _ h9 => h9))
  show s_Ex (d + 1) 0 mX12_opensOne 4 [some (.ref (79)), some (.int (x1))] [.int (v1)] u2 Q X
  refine s_if (cd := .eq) (off := 21) 25 (by decide +kernel) (by decide) (fun hc => ?_) (fun hc => ?_)
  · replace h := h.1 hc
    refine s_blk [(.aload_n 0, 1, 0, 0)] 26 [some (.ref (79)), some (.int (x1))] [.ref (79)] u2 [] (by decide +kernel) (by refine qt_aload_n (r := 79) rfl ?_; exact qt_z rfl rfl rfl rfl rfl) trivial ?_
    refine s_callV (a := 0) (a' := 0) (As := []) (id := 79) (st := []) kX12_fine l_12_164 (by decide +kernel) (q_id_of rfl) rfl (Nat.le_of_ble_eq_true rfl) (s_mono h (s_I_of (fun v3 u4 h => ?_)) (fun _ _ h9 => h9))
    show s_Ex (d + 1) 0 mX12_opensOne 29 [some (.ref (79)), some (.int (x1))] [.int (v3)] u4 Q X
    refine s_if (cd := .eq) (off := 13) 42 (by decide +kernel) (by decide) (fun hc => ?_) (fun hc => ?_)
    · replace h := h.1 hc
      replace h := h _ rfl
      refine s_blk [(.aload_n 0, 1, 0, 0), (.dup, 1, 0, 0), (.getfield 175, 3, 12, 7), (.iconst 1, 1, 0, 0), (.iadd, 1, 0, 0), (.putfield 175, 3, 12, 7)] 52 [some (.ref (79)), some (.int (x1))] [] (q_wI u4 79 7 ((u4.1 79 7) + 1)) [q_id 116 12 79, q_id 116 12 79] (by decide +kernel) (by refine qt_aload_n (r := 79) rfl ?_; refine qt_dupR ?_; refine qt_getI rfl ?_; refine qt_iconst qc_1 ?_; refine qt_iadd ?_; refine qt_putI rfl ?_; exact qt_z rfl rfl rfl rfl rfl) ⟨(q_id_of rfl), (q_id_of rfl)⟩ ?_
      exact s_retV (by decide +kernel) rfl h
    · replace h := h.2 hc
      replace h := h _ rfl
      replace h := h _ rfl
      refine s_blk [(.aload_n 0, 1, 0, 0), (.dup, 1, 0, 0), (.getfield 141, 3, 12, 4), (.iload_n 1, 1, 0, 0), (.iadd, 1, 0, 0), (.putfield 141, 3, 12, 4), (.aload_n 0, 1, 0, 0), (.dup, 1, 0, 0), (.getfield 175, 3, 12, 7), (.iconst 1, 1, 0, 0), (.iadd, 1, 0, 0), (.putfield 175, 3, 12, 7)] 52 [some (.ref (79)), some (.int (x1))] [] (q_wI (q_wI u4 79 4 ((u4.1 79 4) + x1)) 79 7 (((q_wI u4 79 4 ((u4.1 79 4) + x1)).1 79 7) + 1)) [q_id 116 12 79, q_id 116 12 79, q_id 116 12 79, q_id 116 12 79] (by decide +kernel) (by refine qt_aload_n (r := 79) rfl ?_; refine qt_dupR ?_; refine qt_getI rfl ?_; refine qt_iload_n (x := x1) rfl ?_; refine qt_iadd ?_; refine qt_putI rfl ?_; refine qt_aload_n (r := 79) rfl ?_; refine qt_dupR ?_; refine qt_getI rfl ?_; refine qt_iconst qc_1 ?_; refine qt_iadd ?_; refine qt_putI rfl ?_; exact qt_z rfl rfl rfl rfl rfl) ⟨(q_id_of rfl), (q_id_of rfl), (q_id_of rfl), (q_id_of rfl)⟩ ?_
      exact s_retV (by decide +kernel) rfl h
  · replace h := h.2 hc
    refine s_blk [(.aload_n 0, 1, 0, 0), (.getfield 175, 3, 12, 7), (.bipush 6, 2, 0, 0)] 13 [some (.ref (79)), some (.int (x1))] [.int (6), .int (u2.1 79 7)] u2 [q_id 116 12 79] (by decide +kernel) (by refine qt_aload_n (r := 79) rfl ?_; refine qt_getI rfl ?_; refine qt_bipush qb_6 ?_; exact qt_z rfl rfl rfl rfl rfl) (q_id_of rfl) ?_
    refine s_icmp (cd := .ne) (off := 12) 25 (by decide +kernel) (by decide) (fun hc => ?_) (fun hc => ?_)
    · replace h := h.1 hc
      refine s_blk [(.aload_n 0, 1, 0, 0)] 26 [some (.ref (79)), some (.int (x1))] [.ref (79)] u2 [] (by decide +kernel) (by refine qt_aload_n (r := 79) rfl ?_; exact qt_z rfl rfl rfl rfl rfl) trivial ?_
      refine s_callV (a := 0) (a' := 0) (As := []) (id := 79) (st := []) kX12_fine l_12_164 (by decide +kernel) (q_id_of rfl) rfl (Nat.le_of_ble_eq_true rfl) (s_mono h (s_I_of (fun v8 u9 h => ?_)) (fun _ _ h9 => h9))
      show s_Ex (d + 1) 0 mX12_opensOne 29 [some (.ref (79)), some (.int (x1))] [.int (v8)] u9 Q X
      refine s_if (cd := .eq) (off := 13) 42 (by decide +kernel) (by decide) (fun hc => ?_) (fun hc => ?_)
      · replace h := h.1 hc
        replace h := h _ rfl
        refine s_blk [(.aload_n 0, 1, 0, 0), (.dup, 1, 0, 0), (.getfield 175, 3, 12, 7), (.iconst 1, 1, 0, 0), (.iadd, 1, 0, 0), (.putfield 175, 3, 12, 7)] 52 [some (.ref (79)), some (.int (x1))] [] (q_wI u9 79 7 ((u9.1 79 7) + 1)) [q_id 116 12 79, q_id 116 12 79] (by decide +kernel) (by refine qt_aload_n (r := 79) rfl ?_; refine qt_dupR ?_; refine qt_getI rfl ?_; refine qt_iconst qc_1 ?_; refine qt_iadd ?_; refine qt_putI rfl ?_; exact qt_z rfl rfl rfl rfl rfl) ⟨(q_id_of rfl), (q_id_of rfl)⟩ ?_
        exact s_retV (by decide +kernel) rfl h
      · replace h := h.2 hc
        replace h := h _ rfl
        replace h := h _ rfl
        refine s_blk [(.aload_n 0, 1, 0, 0), (.dup, 1, 0, 0), (.getfield 141, 3, 12, 4), (.iload_n 1, 1, 0, 0), (.iadd, 1, 0, 0), (.putfield 141, 3, 12, 4), (.aload_n 0, 1, 0, 0), (.dup, 1, 0, 0), (.getfield 175, 3, 12, 7), (.iconst 1, 1, 0, 0), (.iadd, 1, 0, 0), (.putfield 175, 3, 12, 7)] 52 [some (.ref (79)), some (.int (x1))] [] (q_wI (q_wI u9 79 4 ((u9.1 79 4) + x1)) 79 7 (((q_wI u9 79 4 ((u9.1 79 4) + x1)).1 79 7) + 1)) [q_id 116 12 79, q_id 116 12 79, q_id 116 12 79, q_id 116 12 79] (by decide +kernel) (by refine qt_aload_n (r := 79) rfl ?_; refine qt_dupR ?_; refine qt_getI rfl ?_; refine qt_iload_n (x := x1) rfl ?_; refine qt_iadd ?_; refine qt_putI rfl ?_; refine qt_aload_n (r := 79) rfl ?_; refine qt_dupR ?_; refine qt_getI rfl ?_; refine qt_iconst qc_1 ?_; refine qt_iadd ?_; refine qt_putI rfl ?_; exact qt_z rfl rfl rfl rfl rfl) ⟨(q_id_of rfl), (q_id_of rfl), (q_id_of rfl), (q_id_of rfl)⟩ ?_
        exact s_retV (by decide +kernel) rfl h
    · replace h := h.2 hc
      refine s_blk [(.aload_n 0, 1, 0, 0), (.iconst 3, 1, 0, 0), (.aload_n 0, 1, 0, 0), (.getfield 141, 3, 12, 4)] 22 [some (.ref (79)), some (.int (x1))] [.int (u2.1 79 4), .int (3), .ref (79)] u2 [q_id 116 12 79] (by decide +kernel) (by refine qt_aload_n (r := 79) rfl ?_; refine qt_iconst qc_3 ?_; refine qt_aload_n (r := 79) rfl ?_; refine qt_getI rfl ?_; exact qt_z rfl rfl rfl rfl rfl) (q_id_of rfl) ?_
      refine s_callV (a := 0) (a' := 0) (As := [.int (3), .int (u2.1 79 4)]) (id := 79) (st := []) kX12_wrong l_12_171 (by decide +kernel) (q_id_of rfl) rfl (Nat.le_of_ble_eq_true rfl) (s_mono h (s_V_of (fun u14 h => ?_)) (fun _ _ h9 => h9))
      show s_Ex (d + 1) 0 mX12_opensOne 25 [some (.ref (79)), some (.int (x1))] [] u14 Q X
      refine s_blk [(.aload_n 0, 1, 0, 0)] 26 [some (.ref (79)), some (.int (x1))] [.ref (79)] u14 [] (by decide +kernel) (by refine qt_aload_n (r := 79) rfl ?_; exact qt_z rfl rfl rfl rfl rfl) trivial ?_
      refine s_callV (a := 0) (a' := 0) (As := []) (id := 79) (st := []) kX12_fine l_12_164 (by decide +kernel) (q_id_of rfl) rfl (Nat.le_of_ble_eq_true rfl) (s_mono h (s_I_of (fun v15 u16 h => ?_)) (fun _ _ h9 => h9))
      show s_Ex (d + 1) 0 mX12_opensOne 29 [some (.ref (79)), some (.int (x1))] [.int (v15)] u16 Q X
      refine s_if (cd := .eq) (off := 13) 42 (by decide +kernel) (by decide) (fun hc => ?_) (fun hc => ?_)
      · replace h := h.1 hc
        replace h := h _ rfl
        refine s_blk [(.aload_n 0, 1, 0, 0), (.dup, 1, 0, 0), (.getfield 175, 3, 12, 7), (.iconst 1, 1, 0, 0), (.iadd, 1, 0, 0), (.putfield 175, 3, 12, 7)] 52 [some (.ref (79)), some (.int (x1))] [] (q_wI u16 79 7 ((u16.1 79 7) + 1)) [q_id 116 12 79, q_id 116 12 79] (by decide +kernel) (by refine qt_aload_n (r := 79) rfl ?_; refine qt_dupR ?_; refine qt_getI rfl ?_; refine qt_iconst qc_1 ?_; refine qt_iadd ?_; refine qt_putI rfl ?_; exact qt_z rfl rfl rfl rfl rfl) ⟨(q_id_of rfl), (q_id_of rfl)⟩ ?_
        exact s_retV (by decide +kernel) rfl h
      · replace h := h.2 hc
        replace h := h _ rfl
        replace h := h _ rfl
        refine s_blk [(.aload_n 0, 1, 0, 0), (.dup, 1, 0, 0), (.getfield 141, 3, 12, 4), (.iload_n 1, 1, 0, 0), (.iadd, 1, 0, 0), (.putfield 141, 3, 12, 4), (.aload_n 0, 1, 0, 0), (.dup, 1, 0, 0), (.getfield 175, 3, 12, 7), (.iconst 1, 1, 0, 0), (.iadd, 1, 0, 0), (.putfield 175, 3, 12, 7)] 52 [some (.ref (79)), some (.int (x1))] [] (q_wI (q_wI u16 79 4 ((u16.1 79 4) + x1)) 79 7 (((q_wI u16 79 4 ((u16.1 79 4) + x1)).1 79 7) + 1)) [q_id 116 12 79, q_id 116 12 79, q_id 116 12 79, q_id 116 12 79] (by decide +kernel) (by refine qt_aload_n (r := 79) rfl ?_; refine qt_dupR ?_; refine qt_getI rfl ?_; refine qt_iload_n (x := x1) rfl ?_; refine qt_iadd ?_; refine qt_putI rfl ?_; refine qt_aload_n (r := 79) rfl ?_; refine qt_dupR ?_; refine qt_getI rfl ?_; refine qt_iconst qc_1 ?_; refine qt_iadd ?_; refine qt_putI rfl ?_; exact qt_z rfl rfl rfl rfl rfl) ⟨(q_id_of rfl), (q_id_of rfl), (q_id_of rfl), (q_id_of rfl)⟩ ?_
        exact s_retV (by decide +kernel) rfl h
theorem eX12_opensOne {d : Nat} {x1 : Int32} {w : q_Sm} {Q : s_Po} {X : s_Xo} (h : vX12_opensOne_0 d x1 w Q X) : s_Ev (d + 1) 0 mX12_opensOne w [.ref (79), .int (x1)] Q X := s_of (by decide) rfl (Nat.le_of_ble_eq_true rfl) (xX12_opensOne_0 h)
def vX12_readSum_0 (d : Nat)  (w : q_Sm) (Q : s_Po) (X : s_Xo) : Prop := s_EvV d 0 mX12_readProduct w [.ref (79)] (fun u2 => s_Ex (d + 1) 0 mX12_readSum 4 [some (.ref (79)), none] [] u2 Q X) X
def vX12_readSum_4 (d : Nat)  (w : q_Sm) (Q : s_Po) (X : s_Xo) : Prop := s_EvI d 0 mX12_fine w [.ref (79)] (fun v3 u4 => ((v3 = 0) → Q none u4) ∧ (¬ (v3 = 0) → s_EvI d 0 mX12_here u4 [.ref (79)] (fun v5 u6 => ((v5 = 43) → s_EvI d 0 mX12_here u6 [.ref (79)] (fun v7 u8 => ((¬ v7 = 43) → ∀ w_9 : q_Sm, w_9 = q_wI u8 79 4 ((u8.1 79 4) + 1) → s_EvV d 0 mX12_readProduct w_9 [.ref (79)] (fun u11 => s_EvV d 0 mX12_emit u11 [.ref (79), .int (3), .int (0)] (fun u13 => s_Ex (d + 1) 0 mX12_readSum 4 [some (.ref (79)), none] [] u13 Q X) X) X) ∧ (¬ (¬ v7 = 43) → ∀ w_14 : q_Sm, w_14 = q_wI u8 79 4 ((u8.1 79 4) + 1) → s_EvV d 0 mX12_readProduct w_14 [.ref (79)] (fun u16 => s_EvV d 0 mX12_emit u16 [.ref (79), .int (2), .int (0)] (fun u18 => s_Ex (d + 1) 0 mX12_readSum 4 [some (.ref (79)), none] [] u18 Q X) X) X)) X) ∧ (¬ (v5 = 43) → s_EvI d 0 mX12_here u6 [.ref (79)] (fun v19 u20 => ((¬ v19 = 45) → Q none u20) ∧ (¬ (¬ v19 = 45) → s_EvI d 0 mX12_here u20 [.ref (79)] (fun v21 u22 => ((¬ v21 = 43) → ∀ w_23 : q_Sm, w_23 = q_wI u22 79 4 ((u22.1 79 4) + 1) → s_EvV d 0 mX12_readProduct w_23 [.ref (79)] (fun u25 => s_EvV d 0 mX12_emit u25 [.ref (79), .int (3), .int (0)] (fun u27 => s_Ex (d + 1) 0 mX12_readSum 4 [some (.ref (79)), none] [] u27 Q X) X) X) ∧ (¬ (¬ v21 = 43) → ∀ w_28 : q_Sm, w_28 = q_wI u22 79 4 ((u22.1 79 4) + 1) → s_EvV d 0 mX12_readProduct w_28 [.ref (79)] (fun u30 => s_EvV d 0 mX12_emit u30 [.ref (79), .int (2), .int (0)] (fun u32 => s_Ex (d + 1) 0 mX12_readSum 4 [some (.ref (79)), none] [] u32 Q X) X) X)) X)) X)) X)) X
theorem xX12_readSum_0 {d : Nat}  {w : q_Sm} {Q : s_Po} {X : s_Xo} (h : vX12_readSum_0 d  w Q X) : s_Ex (d + 1) 0 mX12_readSum 0 [some (.ref (79)), none] [] w Q X := by
  unfold vX12_readSum_0 at h
  refine s_blk [(.aload_n 0, 1, 0, 0)] 1 [some (.ref (79)), none] [.ref (79)] w [] (by decide +kernel) (by refine qt_aload_n (r := 79) rfl ?_; exact qt_z rfl rfl rfl rfl rfl) trivial ?_
  refine s_callV (a := 0) (a' := 0) (As := []) (id := 79) (st := []) kX12_readProduct l_12_307 (by decide +kernel) (q_id_of rfl) rfl (Nat.le_of_ble_eq_true rfl) (s_mono h (s_V_of (fun u2 h => ?_)) (fun _ _ h9 => h9))
  show s_Ex (d + 1) 0 mX12_readSum 4 [some (.ref (79)), none] [] u2 Q X
  exact h
theorem xX12_readSum_4 {d : Nat}  {w : q_Sm} {Q : s_Po} {X : s_Xo} (h : vX12_readSum_4 d  w Q X) : s_Ex (d + 1) 0 mX12_readSum 4 [some (.ref (79)), none] [] w Q X := by
  unfold vX12_readSum_4 at h
  refine s_blk [(.aload_n 0, 1, 0, 0)] 5 [some (.ref (79)), none] [.ref (79)] w [] (by decide +kernel) (by refine qt_aload_n (r := 79) rfl ?_; exact qt_z rfl rfl rfl rfl rfl) trivial ?_
  refine s_callV (a := 0) (a' := 0) (As := []) (id := 79) (st := []) kX12_fine l_12_164 (by decide +kernel) (q_id_of rfl) rfl (Nat.le_of_ble_eq_true rfl) (s_mono h (s_I_of (fun v3 u4 h => ?_)) (fun _ _ h9 => h9))
  show s_Ex (d + 1) 0 mX12_readSum 8 [some (.ref (79)), none] [.int (v3)] u4 Q X
  refine s_if (cd := .eq) (off := 59) 67 (by decide +kernel) (by decide) (fun hc => ?_) (fun hc => ?_)
  · replace h := h.1 hc
    exact s_retV (by decide +kernel) rfl h
  · replace h := h.2 hc
    refine s_blk [(.aload_n 0, 1, 0, 0)] 12 [some (.ref (79)), none] [.ref (79)] u4 [] (by decide +kernel) (by refine qt_aload_n (r := 79) rfl ?_; exact qt_z rfl rfl rfl rfl rfl) trivial ?_
    refine s_callV (a := 0) (a' := 0) (As := []) (id := 79) (st := []) kX12_here l_12_147 (by decide +kernel) (q_id_of rfl) rfl (Nat.le_of_ble_eq_true rfl) (s_mono h (s_I_of (fun v5 u6 h => ?_)) (fun _ _ h9 => h9))
    show s_Ex (d + 1) 0 mX12_readSum 15 [some (.ref (79)), none] [.int (v5)] u6 Q X
    refine s_blk [(.bipush 43, 2, 0, 0)] 17 [some (.ref (79)), none] [.int (43), .int (v5)] u6 [] (by decide +kernel) (by refine qt_bipush qb_43 ?_; exact qt_z rfl rfl rfl rfl rfl) trivial ?_
    refine s_icmp (cd := .eq) (off := 12) 29 (by decide +kernel) (by decide) (fun hc => ?_) (fun hc => ?_)
    · replace h := h.1 hc
      refine s_blk [(.aload_n 0, 1, 0, 0)] 30 [some (.ref (79)), none] [.ref (79)] u6 [] (by decide +kernel) (by refine qt_aload_n (r := 79) rfl ?_; exact qt_z rfl rfl rfl rfl rfl) trivial ?_
      refine s_callV (a := 0) (a' := 0) (As := []) (id := 79) (st := []) kX12_here l_12_147 (by decide +kernel) (q_id_of rfl) rfl (Nat.le_of_ble_eq_true rfl) (s_mono h (s_I_of (fun v7 u8 h => ?_)) (fun _ _ h9 => h9))
      show s_Ex (d + 1) 0 mX12_readSum 33 [some (.ref (79)), none] [.int (v7)] u8 Q X
      refine s_blk [(.bipush 43, 2, 0, 0)] 35 [some (.ref (79)), none] [.int (43), .int (v7)] u8 [] (by decide +kernel) (by refine qt_bipush qb_43 ?_; exact qt_z rfl rfl rfl rfl rfl) trivial ?_
      refine s_icmp (cd := .ne) (off := 7) 42 (by decide +kernel) (by decide) (fun hc => ?_) (fun hc => ?_)
      · replace h := h.1 hc
        replace h := h _ rfl
        refine s_blk [(.iconst 3, 1, 0, 0), (.istore_n 1, 1, 0, 0), (.aload_n 0, 1, 0, 0), (.dup, 1, 0, 0), (.getfield 141, 3, 12, 4), (.iconst 1, 1, 0, 0), (.iadd, 1, 0, 0), (.putfield 141, 3, 12, 4), (.aload_n 0, 1, 0, 0)] 55 [some (.ref (79)), some (.int (3))] [.ref (79)] (q_wI u8 79 4 ((u8.1 79 4) + 1)) [q_id 116 12 79, q_id 116 12 79] (by decide +kernel) (by refine qt_iconst qc_3 ?_; refine qt_istore_n (L' := [some (.ref (79)), some (.int (3))]) rfl ?_; refine qt_aload_n (r := 79) rfl ?_; refine qt_dupR ?_; refine qt_getI rfl ?_; refine qt_iconst qc_1 ?_; refine qt_iadd ?_; refine qt_putI rfl ?_; refine qt_aload_n (r := 79) rfl ?_; exact qt_z rfl rfl rfl rfl rfl) ⟨(q_id_of rfl), (q_id_of rfl)⟩ ?_
        refine s_callV (a := 0) (a' := 0) (As := []) (id := 79) (st := []) kX12_readProduct l_12_307 (by decide +kernel) (q_id_of rfl) rfl (Nat.le_of_ble_eq_true rfl) (s_mono h (s_V_of (fun u11 h => ?_)) (fun _ _ h9 => h9))
        show s_Ex (d + 1) 0 mX12_readSum 58 [some (.ref (79)), some (.int (3))] [] u11 Q X
        refine s_blk [(.aload_n 0, 1, 0, 0), (.iload_n 1, 1, 0, 0), (.iconst 0, 1, 0, 0)] 61 [some (.ref (79)), some (.int (3))] [.int (0), .int (3), .ref (79)] u11 [] (by decide +kernel) (by refine qt_aload_n (r := 79) rfl ?_; refine qt_iload_n (x := 3) rfl ?_; refine qt_iconst qc_0 ?_; exact qt_z rfl rfl rfl rfl rfl) trivial ?_
        refine s_callV (a := 0) (a' := 0) (As := [.int (3), .int (0)]) (id := 79) (st := []) kX12_emit l_12_310 (by decide +kernel) (q_id_of rfl) rfl (Nat.le_of_ble_eq_true rfl) (s_mono h (s_V_of (fun u13 h => ?_)) (fun _ _ h9 => h9))
        show s_Ex (d + 1) 0 mX12_readSum 64 [some (.ref (79)), some (.int (3))] [] u13 Q X
        refine s_blk [(.goto (-60), 3, 4, 0), (.nop, 0, 1, 0)] 4 [some (.ref (79)), none] [] u13 [] (by decide +kernel) (by refine qt_goto ?_; refine qt_nop (L' := [some (.ref (79)), none]) rfl ?_; exact qt_z rfl rfl rfl rfl rfl) trivial ?_
        exact h
      · replace h := h.2 hc
        replace h := h _ rfl
        refine s_blk [(.iconst 2, 1, 0, 0), (.goto 4, 3, 43, 0), (.istore_n 1, 1, 0, 0), (.aload_n 0, 1, 0, 0), (.dup, 1, 0, 0), (.getfield 141, 3, 12, 4), (.iconst 1, 1, 0, 0), (.iadd, 1, 0, 0), (.putfield 141, 3, 12, 4), (.aload_n 0, 1, 0, 0)] 55 [some (.ref (79)), some (.int (2))] [.ref (79)] (q_wI u8 79 4 ((u8.1 79 4) + 1)) [q_id 116 12 79, q_id 116 12 79] (by decide +kernel) (by refine qt_iconst qc_2 ?_; refine qt_goto ?_; refine qt_istore_n (L' := [some (.ref (79)), some (.int (2))]) rfl ?_; refine qt_aload_n (r := 79) rfl ?_; refine qt_dupR ?_; refine qt_getI rfl ?_; refine qt_iconst qc_1 ?_; refine qt_iadd ?_; refine qt_putI rfl ?_; refine qt_aload_n (r := 79) rfl ?_; exact qt_z rfl rfl rfl rfl rfl) ⟨(q_id_of rfl), (q_id_of rfl)⟩ ?_
        refine s_callV (a := 0) (a' := 0) (As := []) (id := 79) (st := []) kX12_readProduct l_12_307 (by decide +kernel) (q_id_of rfl) rfl (Nat.le_of_ble_eq_true rfl) (s_mono h (s_V_of (fun u16 h => ?_)) (fun _ _ h9 => h9))
        show s_Ex (d + 1) 0 mX12_readSum 58 [some (.ref (79)), some (.int (2))] [] u16 Q X
        refine s_blk [(.aload_n 0, 1, 0, 0), (.iload_n 1, 1, 0, 0), (.iconst 0, 1, 0, 0)] 61 [some (.ref (79)), some (.int (2))] [.int (0), .int (2), .ref (79)] u16 [] (by decide +kernel) (by refine qt_aload_n (r := 79) rfl ?_; refine qt_iload_n (x := 2) rfl ?_; refine qt_iconst qc_0 ?_; exact qt_z rfl rfl rfl rfl rfl) trivial ?_
        refine s_callV (a := 0) (a' := 0) (As := [.int (2), .int (0)]) (id := 79) (st := []) kX12_emit l_12_310 (by decide +kernel) (q_id_of rfl) rfl (Nat.le_of_ble_eq_true rfl) (s_mono h (s_V_of (fun u18 h => ?_)) (fun _ _ h9 => h9))
        show s_Ex (d + 1) 0 mX12_readSum 64 [some (.ref (79)), some (.int (2))] [] u18 Q X
        refine s_blk [(.goto (-60), 3, 4, 0), (.nop, 0, 1, 0)] 4 [some (.ref (79)), none] [] u18 [] (by decide +kernel) (by refine qt_goto ?_; refine qt_nop (L' := [some (.ref (79)), none]) rfl ?_; exact qt_z rfl rfl rfl rfl rfl) trivial ?_
        exact h
    · replace h := h.2 hc
      refine s_blk [(.aload_n 0, 1, 0, 0)] 21 [some (.ref (79)), none] [.ref (79)] u6 [] (by decide +kernel) (by refine qt_aload_n (r := 79) rfl ?_; exact qt_z rfl rfl rfl rfl rfl) trivial ?_
      refine s_callV (a := 0) (a' := 0) (As := []) (id := 79) (st := []) kX12_here l_12_147 (by decide +kernel) (q_id_of rfl) rfl (Nat.le_of_ble_eq_true rfl) (s_mono h (s_I_of (fun v19 u20 h => ?_)) (fun _ _ h9 => h9))
      show s_Ex (d + 1) 0 mX12_readSum 24 [some (.ref (79)), none] [.int (v19)] u20 Q X
      refine s_blk [(.bipush 45, 2, 0, 0)] 26 [some (.ref (79)), none] [.int (45), .int (v19)] u20 [] (by decide +kernel) (by refine qt_bipush qb_45 ?_; exact qt_z rfl rfl rfl rfl rfl) trivial ?_
      refine s_icmp (cd := .ne) (off := 41) 67 (by decide +kernel) (by decide) (fun hc => ?_) (fun hc => ?_)
      · replace h := h.1 hc
        exact s_retV (by decide +kernel) rfl h
      · replace h := h.2 hc
        refine s_blk [(.aload_n 0, 1, 0, 0)] 30 [some (.ref (79)), none] [.ref (79)] u20 [] (by decide +kernel) (by refine qt_aload_n (r := 79) rfl ?_; exact qt_z rfl rfl rfl rfl rfl) trivial ?_
        refine s_callV (a := 0) (a' := 0) (As := []) (id := 79) (st := []) kX12_here l_12_147 (by decide +kernel) (q_id_of rfl) rfl (Nat.le_of_ble_eq_true rfl) (s_mono h (s_I_of (fun v21 u22 h => ?_)) (fun _ _ h9 => h9))
        show s_Ex (d + 1) 0 mX12_readSum 33 [some (.ref (79)), none] [.int (v21)] u22 Q X
        refine s_blk [(.bipush 43, 2, 0, 0)] 35 [some (.ref (79)), none] [.int (43), .int (v21)] u22 [] (by decide +kernel) (by refine qt_bipush qb_43 ?_; exact qt_z rfl rfl rfl rfl rfl) trivial ?_
        refine s_icmp (cd := .ne) (off := 7) 42 (by decide +kernel) (by decide) (fun hc => ?_) (fun hc => ?_)
        · replace h := h.1 hc
          replace h := h _ rfl
          refine s_blk [(.iconst 3, 1, 0, 0), (.istore_n 1, 1, 0, 0), (.aload_n 0, 1, 0, 0), (.dup, 1, 0, 0), (.getfield 141, 3, 12, 4), (.iconst 1, 1, 0, 0), (.iadd, 1, 0, 0), (.putfield 141, 3, 12, 4), (.aload_n 0, 1, 0, 0)] 55 [some (.ref (79)), some (.int (3))] [.ref (79)] (q_wI u22 79 4 ((u22.1 79 4) + 1)) [q_id 116 12 79, q_id 116 12 79] (by decide +kernel) (by refine qt_iconst qc_3 ?_; refine qt_istore_n (L' := [some (.ref (79)), some (.int (3))]) rfl ?_; refine qt_aload_n (r := 79) rfl ?_; refine qt_dupR ?_; refine qt_getI rfl ?_; refine qt_iconst qc_1 ?_; refine qt_iadd ?_; refine qt_putI rfl ?_; refine qt_aload_n (r := 79) rfl ?_; exact qt_z rfl rfl rfl rfl rfl) ⟨(q_id_of rfl), (q_id_of rfl)⟩ ?_
          refine s_callV (a := 0) (a' := 0) (As := []) (id := 79) (st := []) kX12_readProduct l_12_307 (by decide +kernel) (q_id_of rfl) rfl (Nat.le_of_ble_eq_true rfl) (s_mono h (s_V_of (fun u25 h => ?_)) (fun _ _ h9 => h9))
          show s_Ex (d + 1) 0 mX12_readSum 58 [some (.ref (79)), some (.int (3))] [] u25 Q X
          refine s_blk [(.aload_n 0, 1, 0, 0), (.iload_n 1, 1, 0, 0), (.iconst 0, 1, 0, 0)] 61 [some (.ref (79)), some (.int (3))] [.int (0), .int (3), .ref (79)] u25 [] (by decide +kernel) (by refine qt_aload_n (r := 79) rfl ?_; refine qt_iload_n (x := 3) rfl ?_; refine qt_iconst qc_0 ?_; exact qt_z rfl rfl rfl rfl rfl) trivial ?_
          refine s_callV (a := 0) (a' := 0) (As := [.int (3), .int (0)]) (id := 79) (st := []) kX12_emit l_12_310 (by decide +kernel) (q_id_of rfl) rfl (Nat.le_of_ble_eq_true rfl) (s_mono h (s_V_of (fun u27 h => ?_)) (fun _ _ h9 => h9))
          show s_Ex (d + 1) 0 mX12_readSum 64 [some (.ref (79)), some (.int (3))] [] u27 Q X
          refine s_blk [(.goto (-60), 3, 4, 0), (.nop, 0, 1, 0)] 4 [some (.ref (79)), none] [] u27 [] (by decide +kernel) (by refine qt_goto ?_; refine qt_nop (L' := [some (.ref (79)), none]) rfl ?_; exact qt_z rfl rfl rfl rfl rfl) trivial ?_
          exact h
        · replace h := h.2 hc
          replace h := h _ rfl
          refine s_blk [(.iconst 2, 1, 0, 0), (.goto 4, 3, 43, 0), (.istore_n 1, 1, 0, 0), (.aload_n 0, 1, 0, 0), (.dup, 1, 0, 0), (.getfield 141, 3, 12, 4), (.iconst 1, 1, 0, 0), (.iadd, 1, 0, 0), (.putfield 141, 3, 12, 4), (.aload_n 0, 1, 0, 0)] 55 [some (.ref (79)), some (.int (2))] [.ref (79)] (q_wI u22 79 4 ((u22.1 79 4) + 1)) [q_id 116 12 79, q_id 116 12 79] (by decide +kernel) (by refine qt_iconst qc_2 ?_; refine qt_goto ?_; refine qt_istore_n (L' := [some (.ref (79)), some (.int (2))]) rfl ?_; refine qt_aload_n (r := 79) rfl ?_; refine qt_dupR ?_; refine qt_getI rfl ?_; refine qt_iconst qc_1 ?_; refine qt_iadd ?_; refine qt_putI rfl ?_; refine qt_aload_n (r := 79) rfl ?_; exact qt_z rfl rfl rfl rfl rfl) ⟨(q_id_of rfl), (q_id_of rfl)⟩ ?_
          refine s_callV (a := 0) (a' := 0) (As := []) (id := 79) (st := []) kX12_readProduct l_12_307 (by decide +kernel) (q_id_of rfl) rfl (Nat.le_of_ble_eq_true rfl) (s_mono h (s_V_of (fun u30 h => ?_)) (fun _ _ h9 => h9))
          show s_Ex (d + 1) 0 mX12_readSum 58 [some (.ref (79)), some (.int (2))] [] u30 Q X
          refine s_blk [(.aload_n 0, 1, 0, 0), (.iload_n 1, 1, 0, 0), (.iconst 0, 1, 0, 0)] 61 [some (.ref (79)), some (.int (2))] [.int (0), .int (2), .ref (79)] u30 [] (by decide +kernel) (by refine qt_aload_n (r := 79) rfl ?_; refine qt_iload_n (x := 2) rfl ?_; refine qt_iconst qc_0 ?_; exact qt_z rfl rfl rfl rfl rfl) trivial ?_
          refine s_callV (a := 0) (a' := 0) (As := [.int (2), .int (0)]) (id := 79) (st := []) kX12_emit l_12_310 (by decide +kernel) (q_id_of rfl) rfl (Nat.le_of_ble_eq_true rfl) (s_mono h (s_V_of (fun u32 h => ?_)) (fun _ _ h9 => h9))
          show s_Ex (d + 1) 0 mX12_readSum 64 [some (.ref (79)), some (.int (2))] [] u32 Q X
          refine s_blk [(.goto (-60), 3, 4, 0), (.nop, 0, 1, 0)] 4 [some (.ref (79)), none] [] u32 [] (by decide +kernel) (by refine qt_goto ?_; refine qt_nop (L' := [some (.ref (79)), none]) rfl ?_; exact qt_z rfl rfl rfl rfl rfl) trivial ?_
          exact h
theorem eX12_readSum {d : Nat}  {w : q_Sm} {Q : s_Po} {X : s_Xo} (h : vX12_readSum_0 d  w Q X) : s_Ev (d + 1) 0 mX12_readSum w [.ref (79)] Q X := s_of (by decide) rfl (Nat.le_of_ble_eq_true rfl) (xX12_readSum_0 h)
def vX12_readProduct_0 (d : Nat)  (w : q_Sm) (Q : s_Po) (X : s_Xo) : Prop := s_EvV d 0 mX12_readUnit w [.ref (79)] (fun u2 => s_Ex (d + 1) 0 mX12_readProduct 4 [some (.ref (79)), none] [] u2 Q X) X
def vX12_readProduct_4 (d : Nat)  (w : q_Sm) (Q : s_Po) (X : s_Xo) : Prop := s_EvI d 0 mX12_fine w [.ref (79)] (fun v3 u4 => ((v3 = 0) → Q none u4) ∧ (¬ (v3 = 0) → s_EvI d 0 mX12_here u4 [.ref (79)] (fun v5 u6 => ((v5 = 42) → s_EvI d 0 mX12_here u6 [.ref (79)] (fun v7 u8 => ((¬ v7 = 42) → ∀ w_9 : q_Sm, w_9 = q_wI u8 79 4 ((u8.1 79 4) + 1) → s_EvV d 0 mX12_readUnit w_9 [.ref (79)] (fun u11 => s_EvV d 0 mX12_emit u11 [.ref (79), .int (5), .int (0)] (fun u13 => s_Ex (d + 1) 0 mX12_readProduct 4 [some (.ref (79)), none] [] u13 Q X) X) X) ∧ (¬ (¬ v7 = 42) → ∀ w_14 : q_Sm, w_14 = q_wI u8 79 4 ((u8.1 79 4) + 1) → s_EvV d 0 mX12_readUnit w_14 [.ref (79)] (fun u16 => s_EvV d 0 mX12_emit u16 [.ref (79), .int (4), .int (0)] (fun u18 => s_Ex (d + 1) 0 mX12_readProduct 4 [some (.ref (79)), none] [] u18 Q X) X) X)) X) ∧ (¬ (v5 = 42) → s_EvI d 0 mX12_here u6 [.ref (79)] (fun v19 u20 => ((¬ v19 = 47) → Q none u20) ∧ (¬ (¬ v19 = 47) → s_EvI d 0 mX12_here u20 [.ref (79)] (fun v21 u22 => ((¬ v21 = 42) → ∀ w_23 : q_Sm, w_23 = q_wI u22 79 4 ((u22.1 79 4) + 1) → s_EvV d 0 mX12_readUnit w_23 [.ref (79)] (fun u25 => s_EvV d 0 mX12_emit u25 [.ref (79), .int (5), .int (0)] (fun u27 => s_Ex (d + 1) 0 mX12_readProduct 4 [some (.ref (79)), none] [] u27 Q X) X) X) ∧ (¬ (¬ v21 = 42) → ∀ w_28 : q_Sm, w_28 = q_wI u22 79 4 ((u22.1 79 4) + 1) → s_EvV d 0 mX12_readUnit w_28 [.ref (79)] (fun u30 => s_EvV d 0 mX12_emit u30 [.ref (79), .int (4), .int (0)] (fun u32 => s_Ex (d + 1) 0 mX12_readProduct 4 [some (.ref (79)), none] [] u32 Q X) X) X)) X)) X)) X)) X
theorem xX12_readProduct_0 {d : Nat}  {w : q_Sm} {Q : s_Po} {X : s_Xo} (h : vX12_readProduct_0 d  w Q X) : s_Ex (d + 1) 0 mX12_readProduct 0 [some (.ref (79)), none] [] w Q X := by
  unfold vX12_readProduct_0 at h
  refine s_blk [(.aload_n 0, 1, 0, 0)] 1 [some (.ref (79)), none] [.ref (79)] w [] (by decide +kernel) (by refine qt_aload_n (r := 79) rfl ?_; exact qt_z rfl rfl rfl rfl rfl) trivial ?_
  refine s_callV (a := 0) (a' := 0) (As := []) (id := 79) (st := []) kX12_readUnit l_12_313 (by decide +kernel) (q_id_of rfl) rfl (Nat.le_of_ble_eq_true rfl) (s_mono h (s_V_of (fun u2 h => ?_)) (fun _ _ h9 => h9))
  show s_Ex (d + 1) 0 mX12_readProduct 4 [some (.ref (79)), none] [] u2 Q X
  exact h
theorem xX12_readProduct_4 {d : Nat}  {w : q_Sm} {Q : s_Po} {X : s_Xo} (h : vX12_readProduct_4 d  w Q X) : s_Ex (d + 1) 0 mX12_readProduct 4 [some (.ref (79)), none] [] w Q X := by
  unfold vX12_readProduct_4 at h
  refine s_blk [(.aload_n 0, 1, 0, 0)] 5 [some (.ref (79)), none] [.ref (79)] w [] (by decide +kernel) (by refine qt_aload_n (r := 79) rfl ?_; exact qt_z rfl rfl rfl rfl rfl) trivial ?_
  refine s_callV (a := 0) (a' := 0) (As := []) (id := 79) (st := []) kX12_fine l_12_164 (by decide +kernel) (q_id_of rfl) rfl (Nat.le_of_ble_eq_true rfl) (s_mono h (s_I_of (fun v3 u4 h => ?_)) (fun _ _ h9 => h9))
  show s_Ex (d + 1) 0 mX12_readProduct 8 [some (.ref (79)), none] [.int (v3)] u4 Q X
  refine s_if (cd := .eq) (off := 59) 67 (by decide +kernel) (by decide) (fun hc => ?_) (fun hc => ?_)
  · replace h := h.1 hc
    exact s_retV (by decide +kernel) rfl h
  · replace h := h.2 hc
    refine s_blk [(.aload_n 0, 1, 0, 0)] 12 [some (.ref (79)), none] [.ref (79)] u4 [] (by decide +kernel) (by refine qt_aload_n (r := 79) rfl ?_; exact qt_z rfl rfl rfl rfl rfl) trivial ?_
    refine s_callV (a := 0) (a' := 0) (As := []) (id := 79) (st := []) kX12_here l_12_147 (by decide +kernel) (q_id_of rfl) rfl (Nat.le_of_ble_eq_true rfl) (s_mono h (s_I_of (fun v5 u6 h => ?_)) (fun _ _ h9 => h9))
    show s_Ex (d + 1) 0 mX12_readProduct 15 [some (.ref (79)), none] [.int (v5)] u6 Q X
    refine s_blk [(.bipush 42, 2, 0, 0)] 17 [some (.ref (79)), none] [.int (42), .int (v5)] u6 [] (by decide +kernel) (by refine qt_bipush qb_42 ?_; exact qt_z rfl rfl rfl rfl rfl) trivial ?_
    refine s_icmp (cd := .eq) (off := 12) 29 (by decide +kernel) (by decide) (fun hc => ?_) (fun hc => ?_)
    · replace h := h.1 hc
      refine s_blk [(.aload_n 0, 1, 0, 0)] 30 [some (.ref (79)), none] [.ref (79)] u6 [] (by decide +kernel) (by refine qt_aload_n (r := 79) rfl ?_; exact qt_z rfl rfl rfl rfl rfl) trivial ?_
      refine s_callV (a := 0) (a' := 0) (As := []) (id := 79) (st := []) kX12_here l_12_147 (by decide +kernel) (q_id_of rfl) rfl (Nat.le_of_ble_eq_true rfl) (s_mono h (s_I_of (fun v7 u8 h => ?_)) (fun _ _ h9 => h9))
      show s_Ex (d + 1) 0 mX12_readProduct 33 [some (.ref (79)), none] [.int (v7)] u8 Q X
      refine s_blk [(.bipush 42, 2, 0, 0)] 35 [some (.ref (79)), none] [.int (42), .int (v7)] u8 [] (by decide +kernel) (by refine qt_bipush qb_42 ?_; exact qt_z rfl rfl rfl rfl rfl) trivial ?_
      refine s_icmp (cd := .ne) (off := 7) 42 (by decide +kernel) (by decide) (fun hc => ?_) (fun hc => ?_)
      · replace h := h.1 hc
        replace h := h _ rfl
        refine s_blk [(.iconst 5, 1, 0, 0), (.istore_n 1, 1, 0, 0), (.aload_n 0, 1, 0, 0), (.dup, 1, 0, 0), (.getfield 141, 3, 12, 4), (.iconst 1, 1, 0, 0), (.iadd, 1, 0, 0), (.putfield 141, 3, 12, 4), (.aload_n 0, 1, 0, 0)] 55 [some (.ref (79)), some (.int (5))] [.ref (79)] (q_wI u8 79 4 ((u8.1 79 4) + 1)) [q_id 116 12 79, q_id 116 12 79] (by decide +kernel) (by refine qt_iconst qc_5 ?_; refine qt_istore_n (L' := [some (.ref (79)), some (.int (5))]) rfl ?_; refine qt_aload_n (r := 79) rfl ?_; refine qt_dupR ?_; refine qt_getI rfl ?_; refine qt_iconst qc_1 ?_; refine qt_iadd ?_; refine qt_putI rfl ?_; refine qt_aload_n (r := 79) rfl ?_; exact qt_z rfl rfl rfl rfl rfl) ⟨(q_id_of rfl), (q_id_of rfl)⟩ ?_
        refine s_callV (a := 0) (a' := 0) (As := []) (id := 79) (st := []) kX12_readUnit l_12_313 (by decide +kernel) (q_id_of rfl) rfl (Nat.le_of_ble_eq_true rfl) (s_mono h (s_V_of (fun u11 h => ?_)) (fun _ _ h9 => h9))
        show s_Ex (d + 1) 0 mX12_readProduct 58 [some (.ref (79)), some (.int (5))] [] u11 Q X
        refine s_blk [(.aload_n 0, 1, 0, 0), (.iload_n 1, 1, 0, 0), (.iconst 0, 1, 0, 0)] 61 [some (.ref (79)), some (.int (5))] [.int (0), .int (5), .ref (79)] u11 [] (by decide +kernel) (by refine qt_aload_n (r := 79) rfl ?_; refine qt_iload_n (x := 5) rfl ?_; refine qt_iconst qc_0 ?_; exact qt_z rfl rfl rfl rfl rfl) trivial ?_
        refine s_callV (a := 0) (a' := 0) (As := [.int (5), .int (0)]) (id := 79) (st := []) kX12_emit l_12_310 (by decide +kernel) (q_id_of rfl) rfl (Nat.le_of_ble_eq_true rfl) (s_mono h (s_V_of (fun u13 h => ?_)) (fun _ _ h9 => h9))
        show s_Ex (d + 1) 0 mX12_readProduct 64 [some (.ref (79)), some (.int (5))] [] u13 Q X
        refine s_blk [(.goto (-60), 3, 4, 0), (.nop, 0, 1, 0)] 4 [some (.ref (79)), none] [] u13 [] (by decide +kernel) (by refine qt_goto ?_; refine qt_nop (L' := [some (.ref (79)), none]) rfl ?_; exact qt_z rfl rfl rfl rfl rfl) trivial ?_
        exact h
      · replace h := h.2 hc
        replace h := h _ rfl
        refine s_blk [(.iconst 4, 1, 0, 0), (.goto 4, 3, 43, 0), (.istore_n 1, 1, 0, 0), (.aload_n 0, 1, 0, 0), (.dup, 1, 0, 0), (.getfield 141, 3, 12, 4), (.iconst 1, 1, 0, 0), (.iadd, 1, 0, 0), (.putfield 141, 3, 12, 4), (.aload_n 0, 1, 0, 0)] 55 [some (.ref (79)), some (.int (4))] [.ref (79)] (q_wI u8 79 4 ((u8.1 79 4) + 1)) [q_id 116 12 79, q_id 116 12 79] (by decide +kernel) (by refine qt_iconst qc_4 ?_; refine qt_goto ?_; refine qt_istore_n (L' := [some (.ref (79)), some (.int (4))]) rfl ?_; refine qt_aload_n (r := 79) rfl ?_; refine qt_dupR ?_; refine qt_getI rfl ?_; refine qt_iconst qc_1 ?_; refine qt_iadd ?_; refine qt_putI rfl ?_; refine qt_aload_n (r := 79) rfl ?_; exact qt_z rfl rfl rfl rfl rfl) ⟨(q_id_of rfl), (q_id_of rfl)⟩ ?_
        refine s_callV (a := 0) (a' := 0) (As := []) (id := 79) (st := []) kX12_readUnit l_12_313 (by decide +kernel) (q_id_of rfl) rfl (Nat.le_of_ble_eq_true rfl) (s_mono h (s_V_of (fun u16 h => ?_)) (fun _ _ h9 => h9))
        show s_Ex (d + 1) 0 mX12_readProduct 58 [some (.ref (79)), some (.int (4))] [] u16 Q X
        refine s_blk [(.aload_n 0, 1, 0, 0), (.iload_n 1, 1, 0, 0), (.iconst 0, 1, 0, 0)] 61 [some (.ref (79)), some (.int (4))] [.int (0), .int (4), .ref (79)] u16 [] (by decide +kernel) (by refine qt_aload_n (r := 79) rfl ?_; refine qt_iload_n (x := 4) rfl ?_; refine qt_iconst qc_0 ?_; exact qt_z rfl rfl rfl rfl rfl) trivial ?_
        refine s_callV (a := 0) (a' := 0) (As := [.int (4), .int (0)]) (id := 79) (st := []) kX12_emit l_12_310 (by decide +kernel) (q_id_of rfl) rfl (Nat.le_of_ble_eq_true rfl) (s_mono h (s_V_of (fun u18 h => ?_)) (fun _ _ h9 => h9))
        show s_Ex (d + 1) 0 mX12_readProduct 64 [some (.ref (79)), some (.int (4))] [] u18 Q X
        refine s_blk [(.goto (-60), 3, 4, 0), (.nop, 0, 1, 0)] 4 [some (.ref (79)), none] [] u18 [] (by decide +kernel) (by refine qt_goto ?_; refine qt_nop (L' := [some (.ref (79)), none]) rfl ?_; exact qt_z rfl rfl rfl rfl rfl) trivial ?_
        exact h
    · replace h := h.2 hc
      refine s_blk [(.aload_n 0, 1, 0, 0)] 21 [some (.ref (79)), none] [.ref (79)] u6 [] (by decide +kernel) (by refine qt_aload_n (r := 79) rfl ?_; exact qt_z rfl rfl rfl rfl rfl) trivial ?_
      refine s_callV (a := 0) (a' := 0) (As := []) (id := 79) (st := []) kX12_here l_12_147 (by decide +kernel) (q_id_of rfl) rfl (Nat.le_of_ble_eq_true rfl) (s_mono h (s_I_of (fun v19 u20 h => ?_)) (fun _ _ h9 => h9))
      show s_Ex (d + 1) 0 mX12_readProduct 24 [some (.ref (79)), none] [.int (v19)] u20 Q X
      refine s_blk [(.bipush 47, 2, 0, 0)] 26 [some (.ref (79)), none] [.int (47), .int (v19)] u20 [] (by decide +kernel) (by refine qt_bipush qb_47 ?_; exact qt_z rfl rfl rfl rfl rfl) trivial ?_
      refine s_icmp (cd := .ne) (off := 41) 67 (by decide +kernel) (by decide) (fun hc => ?_) (fun hc => ?_)
      · replace h := h.1 hc
        exact s_retV (by decide +kernel) rfl h
      · replace h := h.2 hc
        refine s_blk [(.aload_n 0, 1, 0, 0)] 30 [some (.ref (79)), none] [.ref (79)] u20 [] (by decide +kernel) (by refine qt_aload_n (r := 79) rfl ?_; exact qt_z rfl rfl rfl rfl rfl) trivial ?_
        refine s_callV (a := 0) (a' := 0) (As := []) (id := 79) (st := []) kX12_here l_12_147 (by decide +kernel) (q_id_of rfl) rfl (Nat.le_of_ble_eq_true rfl) (s_mono h (s_I_of (fun v21 u22 h => ?_)) (fun _ _ h9 => h9))
        show s_Ex (d + 1) 0 mX12_readProduct 33 [some (.ref (79)), none] [.int (v21)] u22 Q X
        refine s_blk [(.bipush 42, 2, 0, 0)] 35 [some (.ref (79)), none] [.int (42), .int (v21)] u22 [] (by decide +kernel) (by refine qt_bipush qb_42 ?_; exact qt_z rfl rfl rfl rfl rfl) trivial ?_
        refine s_icmp (cd := .ne) (off := 7) 42 (by decide +kernel) (by decide) (fun hc => ?_) (fun hc => ?_)
        · replace h := h.1 hc
          replace h := h _ rfl
          refine s_blk [(.iconst 5, 1, 0, 0), (.istore_n 1, 1, 0, 0), (.aload_n 0, 1, 0, 0), (.dup, 1, 0, 0), (.getfield 141, 3, 12, 4), (.iconst 1, 1, 0, 0), (.iadd, 1, 0, 0), (.putfield 141, 3, 12, 4), (.aload_n 0, 1, 0, 0)] 55 [some (.ref (79)), some (.int (5))] [.ref (79)] (q_wI u22 79 4 ((u22.1 79 4) + 1)) [q_id 116 12 79, q_id 116 12 79] (by decide +kernel) (by refine qt_iconst qc_5 ?_; refine qt_istore_n (L' := [some (.ref (79)), some (.int (5))]) rfl ?_; refine qt_aload_n (r := 79) rfl ?_; refine qt_dupR ?_; refine qt_getI rfl ?_; refine qt_iconst qc_1 ?_; refine qt_iadd ?_; refine qt_putI rfl ?_; refine qt_aload_n (r := 79) rfl ?_; exact qt_z rfl rfl rfl rfl rfl) ⟨(q_id_of rfl), (q_id_of rfl)⟩ ?_
          refine s_callV (a := 0) (a' := 0) (As := []) (id := 79) (st := []) kX12_readUnit l_12_313 (by decide +kernel) (q_id_of rfl) rfl (Nat.le_of_ble_eq_true rfl) (s_mono h (s_V_of (fun u25 h => ?_)) (fun _ _ h9 => h9))
          show s_Ex (d + 1) 0 mX12_readProduct 58 [some (.ref (79)), some (.int (5))] [] u25 Q X
          refine s_blk [(.aload_n 0, 1, 0, 0), (.iload_n 1, 1, 0, 0), (.iconst 0, 1, 0, 0)] 61 [some (.ref (79)), some (.int (5))] [.int (0), .int (5), .ref (79)] u25 [] (by decide +kernel) (by refine qt_aload_n (r := 79) rfl ?_; refine qt_iload_n (x := 5) rfl ?_; refine qt_iconst qc_0 ?_; exact qt_z rfl rfl rfl rfl rfl) trivial ?_
          refine s_callV (a := 0) (a' := 0) (As := [.int (5), .int (0)]) (id := 79) (st := []) kX12_emit l_12_310 (by decide +kernel) (q_id_of rfl) rfl (Nat.le_of_ble_eq_true rfl) (s_mono h (s_V_of (fun u27 h => ?_)) (fun _ _ h9 => h9))
          show s_Ex (d + 1) 0 mX12_readProduct 64 [some (.ref (79)), some (.int (5))] [] u27 Q X
          refine s_blk [(.goto (-60), 3, 4, 0), (.nop, 0, 1, 0)] 4 [some (.ref (79)), none] [] u27 [] (by decide +kernel) (by refine qt_goto ?_; refine qt_nop (L' := [some (.ref (79)), none]) rfl ?_; exact qt_z rfl rfl rfl rfl rfl) trivial ?_
          exact h
        · replace h := h.2 hc
          replace h := h _ rfl
          refine s_blk [(.iconst 4, 1, 0, 0), (.goto 4, 3, 43, 0), (.istore_n 1, 1, 0, 0), (.aload_n 0, 1, 0, 0), (.dup, 1, 0, 0), (.getfield 141, 3, 12, 4), (.iconst 1, 1, 0, 0), (.iadd, 1, 0, 0), (.putfield 141, 3, 12, 4), (.aload_n 0, 1, 0, 0)] 55 [some (.ref (79)), some (.int (4))] [.ref (79)] (q_wI u22 79 4 ((u22.1 79 4) + 1)) [q_id 116 12 79, q_id 116 12 79] (by decide +kernel) (by refine qt_iconst qc_4 ?_; refine qt_goto ?_; refine qt_istore_n (L' := [some (.ref (79)), some (.int (4))]) rfl ?_; refine qt_aload_n (r := 79) rfl ?_; refine qt_dupR ?_; refine qt_getI rfl ?_; refine qt_iconst qc_1 ?_; refine qt_iadd ?_; refine qt_putI rfl ?_; refine qt_aload_n (r := 79) rfl ?_; exact qt_z rfl rfl rfl rfl rfl) ⟨(q_id_of rfl), (q_id_of rfl)⟩ ?_
          refine s_callV (a := 0) (a' := 0) (As := []) (id := 79) (st := []) kX12_readUnit l_12_313 (by decide +kernel) (q_id_of rfl) rfl (Nat.le_of_ble_eq_true rfl) (s_mono h (s_V_of (fun u30 h => ?_)) (fun _ _ h9 => h9))
          show s_Ex (d + 1) 0 mX12_readProduct 58 [some (.ref (79)), some (.int (4))] [] u30 Q X
          refine s_blk [(.aload_n 0, 1, 0, 0), (.iload_n 1, 1, 0, 0), (.iconst 0, 1, 0, 0)] 61 [some (.ref (79)), some (.int (4))] [.int (0), .int (4), .ref (79)] u30 [] (by decide +kernel) (by refine qt_aload_n (r := 79) rfl ?_; refine qt_iload_n (x := 4) rfl ?_; refine qt_iconst qc_0 ?_; exact qt_z rfl rfl rfl rfl rfl) trivial ?_
          refine s_callV (a := 0) (a' := 0) (As := [.int (4), .int (0)]) (id := 79) (st := []) kX12_emit l_12_310 (by decide +kernel) (q_id_of rfl) rfl (Nat.le_of_ble_eq_true rfl) (s_mono h (s_V_of (fun u32 h => ?_)) (fun _ _ h9 => h9))
          show s_Ex (d + 1) 0 mX12_readProduct 64 [some (.ref (79)), some (.int (4))] [] u32 Q X
          refine s_blk [(.goto (-60), 3, 4, 0), (.nop, 0, 1, 0)] 4 [some (.ref (79)), none] [] u32 [] (by decide +kernel) (by refine qt_goto ?_; refine qt_nop (L' := [some (.ref (79)), none]) rfl ?_; exact qt_z rfl rfl rfl rfl rfl) trivial ?_
          exact h
theorem eX12_readProduct {d : Nat}  {w : q_Sm} {Q : s_Po} {X : s_Xo} (h : vX12_readProduct_0 d  w Q X) : s_Ev (d + 1) 0 mX12_readProduct w [.ref (79)] Q X := s_of (by decide) rfl (Nat.le_of_ble_eq_true rfl) (xX12_readProduct_0 h)
def vX12_readTwo_0 (d : Nat) (x1 : Int32) (x2 : Int32) (w : q_Sm) (Q : s_Po) (X : s_Xo) : Prop := s_EvV d 0 mX12_opensOne w [.ref (79), .int (x1)] (fun u2 => s_EvV d 0 mX12_sign u2 [.ref (79), .int (91)] (fun u4 => s_EvV d 0 mX12_readSum u4 [.ref (79)] (fun u6 => s_EvV d 0 mX12_sign u6 [.ref (79), .int (44)] (fun u8 => s_EvV d 0 mX12_readSum u8 [.ref (79)] (fun u10 => s_EvV d 0 mX12_sign u10 [.ref (79), .int (93)] (fun u12 => ∀ w_13 : q_Sm, w_13 = q_wI u12 79 7 ((u12.1 79 7) - 1) → s_EvV d 0 mX12_emit w_13 [.ref (79), .int (x2), .int (0)] (fun u15 => Q none u15) X) X) X) X) X) X) X
theorem xX12_readTwo_0 {d : Nat} {x1 : Int32} {x2 : Int32} {w : q_Sm} {Q : s_Po} {X : s_Xo} (h : vX12_readTwo_0 d x1 x2 w Q X) : s_Ex (d + 1) 0 mX12_readTwo 0 [some (.ref (79)), some (.int (x1)), some (.int (x2))] [] w Q X := by
  unfold vX12_readTwo_0 at h
  refine s_blk [(.aload_n 0, 1, 0, 0), (.iload_n 1, 1, 0, 0)] 2 [some (.ref (79)), some (.int (x1)), some (.int (x2))] [.int (x1), .ref (79)] w [] (by decide +kernel) (by refine qt_aload_n (r := 79) rfl ?_; refine qt_iload_n (x := x1) rfl ?_; exact qt_z rfl rfl rfl rfl rfl) trivial ?_
  refine s_callV (a := 0) (a' := 0) (As := [.int (x1)]) (id := 79) (st := []) kX12_opensOne l_12_316 (by decide +kernel) (q_id_of rfl) rfl (Nat.le_of_ble_eq_true rfl) (s_mono h (s_V_of (fun u2 h => ?_)) (fun _ _ h9 => h9))
  show s_Ex (d + 1) 0 mX12_readTwo 5 [some (.ref (79)), some (.int (x1)), some (.int (x2))] [] u2 Q X
  refine s_blk [(.aload_n 0, 1, 0, 0), (.bipush 91, 2, 0, 0)] 8 [some (.ref (79)), some (.int (x1)), some (.int (x2))] [.int (91), .ref (79)] u2 [] (by decide +kernel) (by refine qt_aload_n (r := 79) rfl ?_; refine qt_bipush qb_91 ?_; exact qt_z rfl rfl rfl rfl rfl) trivial ?_
  refine s_callV (a := 0) (a' := 0) (As := [.int (91)]) (id := 79) (st := []) kX12_sign l_12_297 (by decide +kernel) (q_id_of rfl) rfl (Nat.le_of_ble_eq_true rfl) (s_mono h (s_V_of (fun u4 h => ?_)) (fun _ _ h9 => h9))
  show s_Ex (d + 1) 0 mX12_readTwo 11 [some (.ref (79)), some (.int (x1)), some (.int (x2))] [] u4 Q X
  refine s_blk [(.aload_n 0, 1, 0, 0)] 12 [some (.ref (79)), some (.int (x1)), some (.int (x2))] [.ref (79)] u4 [] (by decide +kernel) (by refine qt_aload_n (r := 79) rfl ?_; exact qt_z rfl rfl rfl rfl rfl) trivial ?_
  refine s_callV (a := 0) (a' := 0) (As := []) (id := 79) (st := []) kX12_readSum l_12_319 (by decide +kernel) (q_id_of rfl) rfl (Nat.le_of_ble_eq_true rfl) (s_mono h (s_V_of (fun u6 h => ?_)) (fun _ _ h9 => h9))
  show s_Ex (d + 1) 0 mX12_readTwo 15 [some (.ref (79)), some (.int (x1)), some (.int (x2))] [] u6 Q X
  refine s_blk [(.aload_n 0, 1, 0, 0), (.bipush 44, 2, 0, 0)] 18 [some (.ref (79)), some (.int (x1)), some (.int (x2))] [.int (44), .ref (79)] u6 [] (by decide +kernel) (by refine qt_aload_n (r := 79) rfl ?_; refine qt_bipush qb_44 ?_; exact qt_z rfl rfl rfl rfl rfl) trivial ?_
  refine s_callV (a := 0) (a' := 0) (As := [.int (44)]) (id := 79) (st := []) kX12_sign l_12_297 (by decide +kernel) (q_id_of rfl) rfl (Nat.le_of_ble_eq_true rfl) (s_mono h (s_V_of (fun u8 h => ?_)) (fun _ _ h9 => h9))
  show s_Ex (d + 1) 0 mX12_readTwo 21 [some (.ref (79)), some (.int (x1)), some (.int (x2))] [] u8 Q X
  refine s_blk [(.aload_n 0, 1, 0, 0)] 22 [some (.ref (79)), some (.int (x1)), some (.int (x2))] [.ref (79)] u8 [] (by decide +kernel) (by refine qt_aload_n (r := 79) rfl ?_; exact qt_z rfl rfl rfl rfl rfl) trivial ?_
  refine s_callV (a := 0) (a' := 0) (As := []) (id := 79) (st := []) kX12_readSum l_12_319 (by decide +kernel) (q_id_of rfl) rfl (Nat.le_of_ble_eq_true rfl) (s_mono h (s_V_of (fun u10 h => ?_)) (fun _ _ h9 => h9))
  show s_Ex (d + 1) 0 mX12_readTwo 25 [some (.ref (79)), some (.int (x1)), some (.int (x2))] [] u10 Q X
  refine s_blk [(.aload_n 0, 1, 0, 0), (.bipush 93, 2, 0, 0)] 28 [some (.ref (79)), some (.int (x1)), some (.int (x2))] [.int (93), .ref (79)] u10 [] (by decide +kernel) (by refine qt_aload_n (r := 79) rfl ?_; refine qt_bipush qb_93 ?_; exact qt_z rfl rfl rfl rfl rfl) trivial ?_
  refine s_callV (a := 0) (a' := 0) (As := [.int (93)]) (id := 79) (st := []) kX12_sign l_12_297 (by decide +kernel) (q_id_of rfl) rfl (Nat.le_of_ble_eq_true rfl) (s_mono h (s_V_of (fun u12 h => ?_)) (fun _ _ h9 => h9))
  show s_Ex (d + 1) 0 mX12_readTwo 31 [some (.ref (79)), some (.int (x1)), some (.int (x2))] [] u12 Q X
  replace h := h _ rfl
  refine s_blk [(.aload_n 0, 1, 0, 0), (.dup, 1, 0, 0), (.getfield 175, 3, 12, 7), (.iconst 1, 1, 0, 0), (.isub, 1, 0, 0), (.putfield 175, 3, 12, 7), (.aload_n 0, 1, 0, 0), (.iload_n 2, 1, 0, 0), (.iconst 0, 1, 0, 0)] 44 [some (.ref (79)), some (.int (x1)), some (.int (x2))] [.int (0), .int (x2), .ref (79)] (q_wI u12 79 7 ((u12.1 79 7) - 1)) [q_id 116 12 79, q_id 116 12 79] (by decide +kernel) (by refine qt_aload_n (r := 79) rfl ?_; refine qt_dupR ?_; refine qt_getI rfl ?_; refine qt_iconst qc_1 ?_; refine qt_isub ?_; refine qt_putI rfl ?_; refine qt_aload_n (r := 79) rfl ?_; refine qt_iload_n (x := x2) rfl ?_; refine qt_iconst qc_0 ?_; exact qt_z rfl rfl rfl rfl rfl) ⟨(q_id_of rfl), (q_id_of rfl)⟩ ?_
  refine s_callV (a := 0) (a' := 0) (As := [.int (x2), .int (0)]) (id := 79) (st := []) kX12_emit l_12_310 (by decide +kernel) (q_id_of rfl) rfl (Nat.le_of_ble_eq_true rfl) (s_mono h (s_V_of (fun u15 h => ?_)) (fun _ _ h9 => h9))
  show s_Ex (d + 1) 0 mX12_readTwo 47 [some (.ref (79)), some (.int (x1)), some (.int (x2))] [] u15 Q X
  exact s_retV (by decide +kernel) rfl h
theorem eX12_readTwo {d : Nat} {x1 : Int32} {x2 : Int32} {w : q_Sm} {Q : s_Po} {X : s_Xo} (h : vX12_readTwo_0 d x1 x2 w Q X) : s_Ev (d + 1) 0 mX12_readTwo w [.ref (79), .int (x1), .int (x2)] Q X := s_of (by decide) rfl (Nat.le_of_ble_eq_true rfl) (xX12_readTwo_0 h)
def vX12_factHere_0 (d : Nat)  (w : q_Sm) (Q : s_Po) (X : s_Xo) : Prop := s_EvI d 0 mX12_word w [.ref (79)] (fun v1 u2 => s_EvI d 0 mX12_of u2 [.retAddr 41] (fun v3 u4 => ((¬ v1 = v3) → s_EvI d 0 mX12_of u4 [.retAddr 42] (fun v5 u6 => ((¬ v1 = v5) → s_EvI d 0 mX12_of u6 [.retAddr 43] (fun v7 u8 => ((¬ v1 = v7) → s_EvI d 0 mX12_of u8 [.retAddr 30] (fun v9 u10 => ((¬ v1 = v9) → s_EvI d 0 mX12_of u10 [.retAddr 44] (fun v11 u12 => ((¬ v1 = v11) → s_EvI d 0 mX12_of u12 [.retAddr 45] (fun v13 u14 => ((¬ v1 = v13) → s_EvI d 0 mX12_of u14 [.retAddr 46] (fun v15 u16 => ((¬ v1 = v15) → Q (some (.int (-1))) u16) ∧ (¬ (¬ v1 = v15) → Q (some (.int (6))) u16)) X) ∧ (¬ (¬ v1 = v13) → Q (some (.int (5))) u14)) X) ∧ (¬ (¬ v1 = v11) → Q (some (.int (4))) u12)) X) ∧ (¬ (¬ v1 = v9) → Q (some (.int (3))) u10)) X) ∧ (¬ (¬ v1 = v7) → Q (some (.int (2))) u8)) X) ∧ (¬ (¬ v1 = v5) → Q (some (.int (1))) u6)) X) ∧ (¬ (¬ v1 = v3) → Q (some (.int (0))) u4)) X) X
theorem xX12_factHere_0 {d : Nat}  {w : q_Sm} {Q : s_Po} {X : s_Xo} (h : vX12_factHere_0 d  w Q X) : s_Ex (d + 1) 0 mX12_factHere 0 [some (.ref (79)), none] [] w Q X := by
  unfold vX12_factHere_0 at h
  refine s_blk [(.aload_n 0, 1, 0, 0)] 1 [some (.ref (79)), none] [.ref (79)] w [] (by decide +kernel) (by refine qt_aload_n (r := 79) rfl ?_; exact qt_z rfl rfl rfl rfl rfl) trivial ?_
  refine s_callV (a := 0) (a' := 0) (As := []) (id := 79) (st := []) kX12_word l_12_231 (by decide +kernel) (q_id_of rfl) rfl (Nat.le_of_ble_eq_true rfl) (s_mono h (s_I_of (fun v1 u2 h => ?_)) (fun _ _ h9 => h9))
  show s_Ex (d + 1) 0 mX12_factHere 4 [some (.ref (79)), none] [.int (v1)] u2 Q X
  refine s_blk [(.istore_n 1, 1, 0, 0), (.iload_n 1, 1, 0, 0), (.ldc_w 322, 3, 1, 41)] 9 [some (.ref (79)), some (.int (v1))] [.retAddr 41, .int (v1)] u2 [] (by decide +kernel) (by refine qt_istore_n (L' := [some (.ref (79)), some (.int (v1))]) rfl ?_; refine qt_iload_n (x := v1) rfl ?_; refine qt_ldcSW ?_; exact qt_z rfl rfl rfl rfl rfl) trivial ?_
  refine s_callS (a := 0) (a' := 0) (As := [.retAddr 41]) (st := [.int (v1)]) kX12_of l_12_236 (by decide +kernel) rfl (Nat.le_of_ble_eq_true rfl) (s_mono h (s_I_of (fun v3 u4 h => ?_)) (fun _ _ h9 => h9))
  show s_Ex (d + 1) 0 mX12_factHere 12 [some (.ref (79)), some (.int (v1))] [.int (v3), .int (v1)] u4 Q X
  refine s_icmp (cd := .ne) (off := 7) 19 (by decide +kernel) (by decide) (fun hc => ?_) (fun hc => ?_)
  · replace h := h.1 hc
    refine s_blk [(.iload_n 1, 1, 0, 0), (.ldc_w 324, 3, 1, 42)] 23 [some (.ref (79)), some (.int (v1))] [.retAddr 42, .int (v1)] u4 [] (by decide +kernel) (by refine qt_iload_n (x := v1) rfl ?_; refine qt_ldcSW ?_; exact qt_z rfl rfl rfl rfl rfl) trivial ?_
    refine s_callS (a := 0) (a' := 0) (As := [.retAddr 42]) (st := [.int (v1)]) kX12_of l_12_236 (by decide +kernel) rfl (Nat.le_of_ble_eq_true rfl) (s_mono h (s_I_of (fun v5 u6 h => ?_)) (fun _ _ h9 => h9))
    show s_Ex (d + 1) 0 mX12_factHere 26 [some (.ref (79)), some (.int (v1))] [.int (v5), .int (v1)] u6 Q X
    refine s_icmp (cd := .ne) (off := 7) 33 (by decide +kernel) (by decide) (fun hc => ?_) (fun hc => ?_)
    · replace h := h.1 hc
      refine s_blk [(.iload_n 1, 1, 0, 0), (.ldc_w 326, 3, 1, 43)] 37 [some (.ref (79)), some (.int (v1))] [.retAddr 43, .int (v1)] u6 [] (by decide +kernel) (by refine qt_iload_n (x := v1) rfl ?_; refine qt_ldcSW ?_; exact qt_z rfl rfl rfl rfl rfl) trivial ?_
      refine s_callS (a := 0) (a' := 0) (As := [.retAddr 43]) (st := [.int (v1)]) kX12_of l_12_236 (by decide +kernel) rfl (Nat.le_of_ble_eq_true rfl) (s_mono h (s_I_of (fun v7 u8 h => ?_)) (fun _ _ h9 => h9))
      show s_Ex (d + 1) 0 mX12_factHere 40 [some (.ref (79)), some (.int (v1))] [.int (v7), .int (v1)] u8 Q X
      refine s_icmp (cd := .ne) (off := 7) 47 (by decide +kernel) (by decide) (fun hc => ?_) (fun hc => ?_)
      · replace h := h.1 hc
        refine s_blk [(.iload_n 1, 1, 0, 0), (.ldc_w 260, 3, 1, 30)] 51 [some (.ref (79)), some (.int (v1))] [.retAddr 30, .int (v1)] u8 [] (by decide +kernel) (by refine qt_iload_n (x := v1) rfl ?_; refine qt_ldcSW ?_; exact qt_z rfl rfl rfl rfl rfl) trivial ?_
        refine s_callS (a := 0) (a' := 0) (As := [.retAddr 30]) (st := [.int (v1)]) kX12_of l_12_236 (by decide +kernel) rfl (Nat.le_of_ble_eq_true rfl) (s_mono h (s_I_of (fun v9 u10 h => ?_)) (fun _ _ h9 => h9))
        show s_Ex (d + 1) 0 mX12_factHere 54 [some (.ref (79)), some (.int (v1))] [.int (v9), .int (v1)] u10 Q X
        refine s_icmp (cd := .ne) (off := 7) 61 (by decide +kernel) (by decide) (fun hc => ?_) (fun hc => ?_)
        · replace h := h.1 hc
          refine s_blk [(.iload_n 1, 1, 0, 0), (.ldc_w 328, 3, 1, 44)] 65 [some (.ref (79)), some (.int (v1))] [.retAddr 44, .int (v1)] u10 [] (by decide +kernel) (by refine qt_iload_n (x := v1) rfl ?_; refine qt_ldcSW ?_; exact qt_z rfl rfl rfl rfl rfl) trivial ?_
          refine s_callS (a := 0) (a' := 0) (As := [.retAddr 44]) (st := [.int (v1)]) kX12_of l_12_236 (by decide +kernel) rfl (Nat.le_of_ble_eq_true rfl) (s_mono h (s_I_of (fun v11 u12 h => ?_)) (fun _ _ h9 => h9))
          show s_Ex (d + 1) 0 mX12_factHere 68 [some (.ref (79)), some (.int (v1))] [.int (v11), .int (v1)] u12 Q X
          refine s_icmp (cd := .ne) (off := 7) 75 (by decide +kernel) (by decide) (fun hc => ?_) (fun hc => ?_)
          · replace h := h.1 hc
            refine s_blk [(.iload_n 1, 1, 0, 0), (.ldc_w 330, 3, 1, 45)] 79 [some (.ref (79)), some (.int (v1))] [.retAddr 45, .int (v1)] u12 [] (by decide +kernel) (by refine qt_iload_n (x := v1) rfl ?_; refine qt_ldcSW ?_; exact qt_z rfl rfl rfl rfl rfl) trivial ?_
            refine s_callS (a := 0) (a' := 0) (As := [.retAddr 45]) (st := [.int (v1)]) kX12_of l_12_236 (by decide +kernel) rfl (Nat.le_of_ble_eq_true rfl) (s_mono h (s_I_of (fun v13 u14 h => ?_)) (fun _ _ h9 => h9))
            show s_Ex (d + 1) 0 mX12_factHere 82 [some (.ref (79)), some (.int (v1))] [.int (v13), .int (v1)] u14 Q X
            refine s_icmp (cd := .ne) (off := 7) 89 (by decide +kernel) (by decide) (fun hc => ?_) (fun hc => ?_)
            · replace h := h.1 hc
              refine s_blk [(.iload_n 1, 1, 0, 0), (.ldc_w 332, 3, 1, 46)] 93 [some (.ref (79)), some (.int (v1))] [.retAddr 46, .int (v1)] u14 [] (by decide +kernel) (by refine qt_iload_n (x := v1) rfl ?_; refine qt_ldcSW ?_; exact qt_z rfl rfl rfl rfl rfl) trivial ?_
              refine s_callS (a := 0) (a' := 0) (As := [.retAddr 46]) (st := [.int (v1)]) kX12_of l_12_236 (by decide +kernel) rfl (Nat.le_of_ble_eq_true rfl) (s_mono h (s_I_of (fun v15 u16 h => ?_)) (fun _ _ h9 => h9))
              show s_Ex (d + 1) 0 mX12_factHere 96 [some (.ref (79)), some (.int (v1))] [.int (v15), .int (v1)] u16 Q X
              refine s_icmp (cd := .ne) (off := 8) 104 (by decide +kernel) (by decide) (fun hc => ?_) (fun hc => ?_)
              · replace h := h.1 hc
                refine s_blk [(.iconst (-1), 1, 0, 0)] 105 [some (.ref (79)), some (.int (v1))] [.int (-1)] u16 [] (by decide +kernel) (by refine qt_iconst qc_m1 ?_; exact qt_z rfl rfl rfl rfl rfl) trivial ?_
                exact s_retI .int (by decide +kernel) rfl rfl h
              · replace h := h.2 hc
                refine s_blk [(.bipush 6, 2, 0, 0), (.goto 4, 3, 105, 0)] 105 [some (.ref (79)), some (.int (v1))] [.int (6)] u16 [] (by decide +kernel) (by refine qt_bipush qb_6 ?_; refine qt_goto ?_; exact qt_z rfl rfl rfl rfl rfl) trivial ?_
                exact s_retI .int (by decide +kernel) rfl rfl h
            · replace h := h.2 hc
              refine s_blk [(.iconst 5, 1, 0, 0), (.goto 19, 3, 105, 0)] 105 [some (.ref (79)), some (.int (v1))] [.int (5)] u14 [] (by decide +kernel) (by refine qt_iconst qc_5 ?_; refine qt_goto ?_; exact qt_z rfl rfl rfl rfl rfl) trivial ?_
              exact s_retI .int (by decide +kernel) rfl rfl h
          · replace h := h.2 hc
            refine s_blk [(.iconst 4, 1, 0, 0), (.goto 33, 3, 105, 0)] 105 [some (.ref (79)), some (.int (v1))] [.int (4)] u12 [] (by decide +kernel) (by refine qt_iconst qc_4 ?_; refine qt_goto ?_; exact qt_z rfl rfl rfl rfl rfl) trivial ?_
            exact s_retI .int (by decide +kernel) rfl rfl h
        · replace h := h.2 hc
          refine s_blk [(.iconst 3, 1, 0, 0), (.goto 47, 3, 105, 0)] 105 [some (.ref (79)), some (.int (v1))] [.int (3)] u10 [] (by decide +kernel) (by refine qt_iconst qc_3 ?_; refine qt_goto ?_; exact qt_z rfl rfl rfl rfl rfl) trivial ?_
          exact s_retI .int (by decide +kernel) rfl rfl h
      · replace h := h.2 hc
        refine s_blk [(.iconst 2, 1, 0, 0), (.goto 61, 3, 105, 0)] 105 [some (.ref (79)), some (.int (v1))] [.int (2)] u8 [] (by decide +kernel) (by refine qt_iconst qc_2 ?_; refine qt_goto ?_; exact qt_z rfl rfl rfl rfl rfl) trivial ?_
        exact s_retI .int (by decide +kernel) rfl rfl h
    · replace h := h.2 hc
      refine s_blk [(.iconst 1, 1, 0, 0), (.goto 75, 3, 105, 0)] 105 [some (.ref (79)), some (.int (v1))] [.int (1)] u6 [] (by decide +kernel) (by refine qt_iconst qc_1 ?_; refine qt_goto ?_; exact qt_z rfl rfl rfl rfl rfl) trivial ?_
      exact s_retI .int (by decide +kernel) rfl rfl h
  · replace h := h.2 hc
    refine s_blk [(.iconst 0, 1, 0, 0), (.goto 89, 3, 105, 0)] 105 [some (.ref (79)), some (.int (v1))] [.int (0)] u4 [] (by decide +kernel) (by refine qt_iconst qc_0 ?_; refine qt_goto ?_; exact qt_z rfl rfl rfl rfl rfl) trivial ?_
    exact s_retI .int (by decide +kernel) rfl rfl h
theorem eX12_factHere {d : Nat}  {w : q_Sm} {Q : s_Po} {X : s_Xo} (h : vX12_factHere_0 d  w Q X) : s_Ev (d + 1) 0 mX12_factHere w [.ref (79)] Q X := s_of (by decide) rfl (Nat.le_of_ble_eq_true rfl) (xX12_factHere_0 h)
def vX12_readUnit_0 (d : Nat)  (w : q_Sm) (Q : s_Po) (X : s_Xo) : Prop := s_EvI d 0 mX12_fine w [.ref (79)] (fun v1 u2 => ((¬ v1 = 0) → s_EvI d 0 mX12_here u2 [.ref (79)] (fun v3 u4 => ((¬ v3 = 40) → s_EvI d 0 mX12_here u4 [.ref (79)] (fun v5 u6 => s_EvI d 0 mX12_isDigit u6 [.int (v5)] (fun v7 u8 => ((v7 = 0) → s_EvI d 0 mX12_word u8 [.ref (79)] (fun v9 u10 => s_EvI d 0 mX12_of u10 [.retAddr 39] (fun v11 u12 => ((¬ v9 = v11) → s_EvI d 0 mX12_word u12 [.ref (79)] (fun v13 u14 => s_EvI d 0 mX12_of u14 [.retAddr 40] (fun v15 u16 => ((¬ v13 = v15) → s_EvI d 0 mX12_factHere u16 [.ref (79)] (fun v17 u18 => ((¬ v17 = (-1)) → s_EvI d 0 mX12_fine u18 [.ref (79)] (fun v19 u20 => ((¬ v19 = 0) → s_EvV d 0 mX12_pass u20 [.ref (79)] (fun u22 => s_EvV d 0 mX12_emit u22 [.ref (79), .int (1), .int (v17)] (fun u24 => Q none u24) X) X) ∧ (¬ (¬ v19 = 0) → Q none u20)) X) ∧ (¬ (¬ v17 = (-1)) → s_EvV d 0 mX12_wrong u18 [.ref (79), .int (1), .int (u18.1 79 4)] (fun u26 => s_EvI d 0 mX12_fine u26 [.ref (79)] (fun v27 u28 => ((¬ v27 = 0) → s_EvV d 0 mX12_pass u28 [.ref (79)] (fun u30 => s_EvV d 0 mX12_emit u30 [.ref (79), .int (1), .int (v17)] (fun u32 => Q none u32) X) X) ∧ (¬ (¬ v27 = 0) → Q none u28)) X) X)) X) ∧ (¬ (¬ v13 = v15) → s_EvV d 0 mX12_readTwo u16 [.ref (79), .int (4), .int (7)] (fun u34 => Q none u34) X)) X) X) ∧ (¬ (¬ v9 = v11) → s_EvV d 0 mX12_readTwo u12 [.ref (79), .int (5), .int (6)] (fun u36 => Q none u36) X)) X) X) ∧ (¬ (v7 = 0) → s_EvI d 0 mX12_readNumber u8 [.ref (79), .int (0), .int (999)] (fun v37 u38 => s_EvV d 0 mX12_emit u38 [.ref (79), .int (0), .int (v37)] (fun u40 => Q none u40) X) X)) X) X) ∧ (¬ (¬ v3 = 40) → s_EvV d 0 mX12_opensOne u4 [.ref (79), .int (1)] (fun u42 => s_EvV d 0 mX12_readSum u42 [.ref (79)] (fun u44 => s_EvV d 0 mX12_sign u44 [.ref (79), .int (41)] (fun u46 => ∀ w_47 : q_Sm, w_47 = q_wI u46 79 7 ((u46.1 79 7) - 1) → Q none w_47) X) X) X)) X) ∧ (¬ (¬ v1 = 0) → Q none u2)) X
theorem xX12_readUnit_0 {d : Nat}  {w : q_Sm} {Q : s_Po} {X : s_Xo} (h : vX12_readUnit_0 d  w Q X) : s_Ex (d + 1) 0 mX12_readUnit 0 [some (.ref (79)), none] [] w Q X := by
  unfold vX12_readUnit_0 at h
  refine s_blk [(.aload_n 0, 1, 0, 0)] 1 [some (.ref (79)), none] [.ref (79)] w [] (by decide +kernel) (by refine qt_aload_n (r := 79) rfl ?_; exact qt_z rfl rfl rfl rfl rfl) trivial ?_
  refine s_callV (a := 0) (a' := 0) (As := []) (id := 79) (st := []) kX12_fine l_12_164 (by decide +kernel) (q_id_of rfl) rfl (Nat.le_of_ble_eq_true rfl) (s_mono h (s_I_of (fun v1 u2 h => ?_)) (fun _ _ h9 => h9))
  show s_Ex (d + 1) 0 mX12_readUnit 4 [some (.ref (79)), none] [.int (v1)] u2 Q X
  refine s_if (cd := .ne) (off := 4) 8 (by decide +kernel) (by decide) (fun hc => ?_) (fun hc => ?_)
  · replace h := h.1 hc
    refine s_blk [(.aload_n 0, 1, 0, 0)] 9 [some (.ref (79)), none] [.ref (79)] u2 [] (by decide +kernel) (by refine qt_aload_n (r := 79) rfl ?_; exact qt_z rfl rfl rfl rfl rfl) trivial ?_
    refine s_callV (a := 0) (a' := 0) (As := []) (id := 79) (st := []) kX12_here l_12_147 (by decide +kernel) (q_id_of rfl) rfl (Nat.le_of_ble_eq_true rfl) (s_mono h (s_I_of (fun v3 u4 h => ?_)) (fun _ _ h9 => h9))
    show s_Ex (d + 1) 0 mX12_readUnit 12 [some (.ref (79)), none] [.int (v3)] u4 Q X
    refine s_blk [(.bipush 40, 2, 0, 0)] 14 [some (.ref (79)), none] [.int (40), .int (v3)] u4 [] (by decide +kernel) (by refine qt_bipush qb_40 ?_; exact qt_z rfl rfl rfl rfl rfl) trivial ?_
    refine s_icmp (cd := .ne) (off := 31) 45 (by decide +kernel) (by decide) (fun hc => ?_) (fun hc => ?_)
    · replace h := h.1 hc
      refine s_blk [(.aload_n 0, 1, 0, 0)] 46 [some (.ref (79)), none] [.ref (79)] u4 [] (by decide +kernel) (by refine qt_aload_n (r := 79) rfl ?_; exact qt_z rfl rfl rfl rfl rfl) trivial ?_
      refine s_callV (a := 0) (a' := 0) (As := []) (id := 79) (st := []) kX12_here l_12_147 (by decide +kernel) (q_id_of rfl) rfl (Nat.le_of_ble_eq_true rfl) (s_mono h (s_I_of (fun v5 u6 h => ?_)) (fun _ _ h9 => h9))
      show s_Ex (d + 1) 0 mX12_readUnit 49 [some (.ref (79)), none] [.int (v5)] u6 Q X
      refine s_callS (a := 0) (a' := 0) (As := [.int (v5)]) (st := []) kX12_isDigit l_12_168 (by decide +kernel) rfl (Nat.le_of_ble_eq_true rfl) (s_mono h (s_I_of (fun v7 u8 h => ?_)) (fun _ _ h9 => h9))
      show s_Ex (d + 1) 0 mX12_readUnit 52 [some (.ref (79)), none] [.int (v7)] u8 Q X
      refine s_if (cd := .eq) (off := 19) 71 (by decide +kernel) (by decide) (fun hc => ?_) (fun hc => ?_)
      · replace h := h.1 hc
        refine s_blk [(.aload_n 0, 1, 0, 0)] 72 [some (.ref (79)), none] [.ref (79)] u8 [] (by decide +kernel) (by refine qt_aload_n (r := 79) rfl ?_; exact qt_z rfl rfl rfl rfl rfl) trivial ?_
        refine s_callV (a := 0) (a' := 0) (As := []) (id := 79) (st := []) kX12_word l_12_231 (by decide +kernel) (q_id_of rfl) rfl (Nat.le_of_ble_eq_true rfl) (s_mono h (s_I_of (fun v9 u10 h => ?_)) (fun _ _ h9 => h9))
        show s_Ex (d + 1) 0 mX12_readUnit 75 [some (.ref (79)), none] [.int (v9)] u10 Q X
        refine s_blk [(.ldc_w 334, 3, 1, 39)] 78 [some (.ref (79)), none] [.retAddr 39, .int (v9)] u10 [] (by decide +kernel) (by refine qt_ldcSW ?_; exact qt_z rfl rfl rfl rfl rfl) trivial ?_
        refine s_callS (a := 0) (a' := 0) (As := [.retAddr 39]) (st := [.int (v9)]) kX12_of l_12_236 (by decide +kernel) rfl (Nat.le_of_ble_eq_true rfl) (s_mono h (s_I_of (fun v11 u12 h => ?_)) (fun _ _ h9 => h9))
        show s_Ex (d + 1) 0 mX12_readUnit 81 [some (.ref (79)), none] [.int (v11), .int (v9)] u12 Q X
        refine s_icmp (cd := .ne) (off := 13) 94 (by decide +kernel) (by decide) (fun hc => ?_) (fun hc => ?_)
        · replace h := h.1 hc
          refine s_blk [(.aload_n 0, 1, 0, 0)] 95 [some (.ref (79)), none] [.ref (79)] u12 [] (by decide +kernel) (by refine qt_aload_n (r := 79) rfl ?_; exact qt_z rfl rfl rfl rfl rfl) trivial ?_
          refine s_callV (a := 0) (a' := 0) (As := []) (id := 79) (st := []) kX12_word l_12_231 (by decide +kernel) (q_id_of rfl) rfl (Nat.le_of_ble_eq_true rfl) (s_mono h (s_I_of (fun v13 u14 h => ?_)) (fun _ _ h9 => h9))
          show s_Ex (d + 1) 0 mX12_readUnit 98 [some (.ref (79)), none] [.int (v13)] u14 Q X
          refine s_blk [(.ldc_w 339, 3, 1, 40)] 101 [some (.ref (79)), none] [.retAddr 40, .int (v13)] u14 [] (by decide +kernel) (by refine qt_ldcSW ?_; exact qt_z rfl rfl rfl rfl rfl) trivial ?_
          refine s_callS (a := 0) (a' := 0) (As := [.retAddr 40]) (st := [.int (v13)]) kX12_of l_12_236 (by decide +kernel) rfl (Nat.le_of_ble_eq_true rfl) (s_mono h (s_I_of (fun v15 u16 h => ?_)) (fun _ _ h9 => h9))
          show s_Ex (d + 1) 0 mX12_readUnit 104 [some (.ref (79)), none] [.int (v15), .int (v13)] u16 Q X
          refine s_icmp (cd := .ne) (off := 13) 117 (by decide +kernel) (by decide) (fun hc => ?_) (fun hc => ?_)
          · replace h := h.1 hc
            refine s_blk [(.aload_n 0, 1, 0, 0)] 118 [some (.ref (79)), none] [.ref (79)] u16 [] (by decide +kernel) (by refine qt_aload_n (r := 79) rfl ?_; exact qt_z rfl rfl rfl rfl rfl) trivial ?_
            refine s_callV (a := 0) (a' := 0) (As := []) (id := 79) (st := []) kX12_factHere l_12_341 (by decide +kernel) (q_id_of rfl) rfl (Nat.le_of_ble_eq_true rfl) (s_mono h (s_I_of (fun v17 u18 h => ?_)) (fun _ _ h9 => h9))
            show s_Ex (d + 1) 0 mX12_readUnit 121 [some (.ref (79)), none] [.int (v17)] u18 Q X
            refine s_blk [(.istore_n 1, 1, 0, 0), (.iload_n 1, 1, 0, 0), (.iconst (-1), 1, 0, 0)] 124 [some (.ref (79)), some (.int (v17))] [.int (-1), .int (v17)] u18 [] (by decide +kernel) (by refine qt_istore_n (L' := [some (.ref (79)), some (.int (v17))]) rfl ?_; refine qt_iload_n (x := v17) rfl ?_; refine qt_iconst qc_m1 ?_; exact qt_z rfl rfl rfl rfl rfl) trivial ?_
            refine s_icmp (cd := .ne) (off := 12) 136 (by decide +kernel) (by decide) (fun hc => ?_) (fun hc => ?_)
            · replace h := h.1 hc
              refine s_blk [(.aload_n 0, 1, 0, 0)] 137 [some (.ref (79)), some (.int (v17))] [.ref (79)] u18 [] (by decide +kernel) (by refine qt_aload_n (r := 79) rfl ?_; exact qt_z rfl rfl rfl rfl rfl) trivial ?_
              refine s_callV (a := 0) (a' := 0) (As := []) (id := 79) (st := []) kX12_fine l_12_164 (by decide +kernel) (q_id_of rfl) rfl (Nat.le_of_ble_eq_true rfl) (s_mono h (s_I_of (fun v19 u20 h => ?_)) (fun _ _ h9 => h9))
              show s_Ex (d + 1) 0 mX12_readUnit 140 [some (.ref (79)), some (.int (v17))] [.int (v19)] u20 Q X
              refine s_if (cd := .ne) (off := 4) 144 (by decide +kernel) (by decide) (fun hc => ?_) (fun hc => ?_)
              · replace h := h.1 hc
                refine s_blk [(.aload_n 0, 1, 0, 0)] 145 [some (.ref (79)), some (.int (v17))] [.ref (79)] u20 [] (by decide +kernel) (by refine qt_aload_n (r := 79) rfl ?_; exact qt_z rfl rfl rfl rfl rfl) trivial ?_
                refine s_callV (a := 0) (a' := 0) (As := []) (id := 79) (st := []) kX12_pass l_12_249 (by decide +kernel) (q_id_of rfl) rfl (Nat.le_of_ble_eq_true rfl) (s_mono h (s_V_of (fun u22 h => ?_)) (fun _ _ h9 => h9))
                show s_Ex (d + 1) 0 mX12_readUnit 148 [some (.ref (79)), some (.int (v17))] [] u22 Q X
                refine s_blk [(.aload_n 0, 1, 0, 0), (.iconst 1, 1, 0, 0), (.iload_n 1, 1, 0, 0)] 151 [some (.ref (79)), some (.int (v17))] [.int (v17), .int (1), .ref (79)] u22 [] (by decide +kernel) (by refine qt_aload_n (r := 79) rfl ?_; refine qt_iconst qc_1 ?_; refine qt_iload_n (x := v17) rfl ?_; exact qt_z rfl rfl rfl rfl rfl) trivial ?_
                refine s_callV (a := 0) (a' := 0) (As := [.int (1), .int (v17)]) (id := 79) (st := []) kX12_emit l_12_310 (by decide +kernel) (q_id_of rfl) rfl (Nat.le_of_ble_eq_true rfl) (s_mono h (s_V_of (fun u24 h => ?_)) (fun _ _ h9 => h9))
                show s_Ex (d + 1) 0 mX12_readUnit 154 [some (.ref (79)), some (.int (v17))] [] u24 Q X
                exact s_retV (by decide +kernel) rfl h
              · replace h := h.2 hc
                exact s_retV (by decide +kernel) rfl h
            · replace h := h.2 hc
              refine s_blk [(.aload_n 0, 1, 0, 0), (.iconst 1, 1, 0, 0), (.aload_n 0, 1, 0, 0), (.getfield 141, 3, 12, 4)] 133 [some (.ref (79)), some (.int (v17))] [.int (u18.1 79 4), .int (1), .ref (79)] u18 [q_id 116 12 79] (by decide +kernel) (by refine qt_aload_n (r := 79) rfl ?_; refine qt_iconst qc_1 ?_; refine qt_aload_n (r := 79) rfl ?_; refine qt_getI rfl ?_; exact qt_z rfl rfl rfl rfl rfl) (q_id_of rfl) ?_
              refine s_callV (a := 0) (a' := 0) (As := [.int (1), .int (u18.1 79 4)]) (id := 79) (st := []) kX12_wrong l_12_171 (by decide +kernel) (q_id_of rfl) rfl (Nat.le_of_ble_eq_true rfl) (s_mono h (s_V_of (fun u26 h => ?_)) (fun _ _ h9 => h9))
              show s_Ex (d + 1) 0 mX12_readUnit 136 [some (.ref (79)), some (.int (v17))] [] u26 Q X
              refine s_blk [(.aload_n 0, 1, 0, 0)] 137 [some (.ref (79)), some (.int (v17))] [.ref (79)] u26 [] (by decide +kernel) (by refine qt_aload_n (r := 79) rfl ?_; exact qt_z rfl rfl rfl rfl rfl) trivial ?_
              refine s_callV (a := 0) (a' := 0) (As := []) (id := 79) (st := []) kX12_fine l_12_164 (by decide +kernel) (q_id_of rfl) rfl (Nat.le_of_ble_eq_true rfl) (s_mono h (s_I_of (fun v27 u28 h => ?_)) (fun _ _ h9 => h9))
              show s_Ex (d + 1) 0 mX12_readUnit 140 [some (.ref (79)), some (.int (v17))] [.int (v27)] u28 Q X
              refine s_if (cd := .ne) (off := 4) 144 (by decide +kernel) (by decide) (fun hc => ?_) (fun hc => ?_)
              · replace h := h.1 hc
                refine s_blk [(.aload_n 0, 1, 0, 0)] 145 [some (.ref (79)), some (.int (v17))] [.ref (79)] u28 [] (by decide +kernel) (by refine qt_aload_n (r := 79) rfl ?_; exact qt_z rfl rfl rfl rfl rfl) trivial ?_
                refine s_callV (a := 0) (a' := 0) (As := []) (id := 79) (st := []) kX12_pass l_12_249 (by decide +kernel) (q_id_of rfl) rfl (Nat.le_of_ble_eq_true rfl) (s_mono h (s_V_of (fun u30 h => ?_)) (fun _ _ h9 => h9))
                show s_Ex (d + 1) 0 mX12_readUnit 148 [some (.ref (79)), some (.int (v17))] [] u30 Q X
                refine s_blk [(.aload_n 0, 1, 0, 0), (.iconst 1, 1, 0, 0), (.iload_n 1, 1, 0, 0)] 151 [some (.ref (79)), some (.int (v17))] [.int (v17), .int (1), .ref (79)] u30 [] (by decide +kernel) (by refine qt_aload_n (r := 79) rfl ?_; refine qt_iconst qc_1 ?_; refine qt_iload_n (x := v17) rfl ?_; exact qt_z rfl rfl rfl rfl rfl) trivial ?_
                refine s_callV (a := 0) (a' := 0) (As := [.int (1), .int (v17)]) (id := 79) (st := []) kX12_emit l_12_310 (by decide +kernel) (q_id_of rfl) rfl (Nat.le_of_ble_eq_true rfl) (s_mono h (s_V_of (fun u32 h => ?_)) (fun _ _ h9 => h9))
                show s_Ex (d + 1) 0 mX12_readUnit 154 [some (.ref (79)), some (.int (v17))] [] u32 Q X
                exact s_retV (by decide +kernel) rfl h
              · replace h := h.2 hc
                exact s_retV (by decide +kernel) rfl h
          · replace h := h.2 hc
            refine s_blk [(.aload_n 0, 1, 0, 0), (.iconst 4, 1, 0, 0), (.bipush 7, 2, 0, 0)] 111 [some (.ref (79)), none] [.int (7), .int (4), .ref (79)] u16 [] (by decide +kernel) (by refine qt_aload_n (r := 79) rfl ?_; refine qt_iconst qc_4 ?_; refine qt_bipush qb_7 ?_; exact qt_z rfl rfl rfl rfl rfl) trivial ?_
            refine s_callV (a := 0) (a' := 0) (As := [.int (4), .int (7)]) (id := 79) (st := []) kX12_readTwo l_12_336 (by decide +kernel) (q_id_of rfl) rfl (Nat.le_of_ble_eq_true rfl) (s_mono h (s_V_of (fun u34 h => ?_)) (fun _ _ h9 => h9))
            show s_Ex (d + 1) 0 mX12_readUnit 114 [some (.ref (79)), none] [] u34 Q X
            refine s_blk [(.goto 40, 3, 154, 0)] 154 [some (.ref (79)), none] [] u34 [] (by decide +kernel) (by refine qt_goto ?_; exact qt_z rfl rfl rfl rfl rfl) trivial ?_
            exact s_retV (by decide +kernel) rfl h
        · replace h := h.2 hc
          refine s_blk [(.aload_n 0, 1, 0, 0), (.iconst 5, 1, 0, 0), (.bipush 6, 2, 0, 0)] 88 [some (.ref (79)), none] [.int (6), .int (5), .ref (79)] u12 [] (by decide +kernel) (by refine qt_aload_n (r := 79) rfl ?_; refine qt_iconst qc_5 ?_; refine qt_bipush qb_6 ?_; exact qt_z rfl rfl rfl rfl rfl) trivial ?_
          refine s_callV (a := 0) (a' := 0) (As := [.int (5), .int (6)]) (id := 79) (st := []) kX12_readTwo l_12_336 (by decide +kernel) (q_id_of rfl) rfl (Nat.le_of_ble_eq_true rfl) (s_mono h (s_V_of (fun u36 h => ?_)) (fun _ _ h9 => h9))
          show s_Ex (d + 1) 0 mX12_readUnit 91 [some (.ref (79)), none] [] u36 Q X
          refine s_blk [(.goto 63, 3, 154, 0)] 154 [some (.ref (79)), none] [] u36 [] (by decide +kernel) (by refine qt_goto ?_; exact qt_z rfl rfl rfl rfl rfl) trivial ?_
          exact s_retV (by decide +kernel) rfl h
      · replace h := h.2 hc
        refine s_blk [(.aload_n 0, 1, 0, 0), (.iconst 0, 1, 0, 0), (.aload_n 0, 1, 0, 0), (.iconst 0, 1, 0, 0), (.sipush 999, 3, 0, 0)] 62 [some (.ref (79)), none] [.int (999), .int (0), .ref (79), .int (0), .ref (79)] u8 [] (by decide +kernel) (by refine qt_aload_n (r := 79) rfl ?_; refine qt_iconst qc_0 ?_; refine qt_aload_n (r := 79) rfl ?_; refine qt_iconst qc_0 ?_; refine qt_sipush qs_999 ?_; exact qt_z rfl rfl rfl rfl rfl) trivial ?_
        refine s_callV (a := 0) (a' := 0) (As := [.int (0), .int (999)]) (id := 79) (st := [.int (0), .ref (79)]) kX12_readNumber l_12_254 (by decide +kernel) (q_id_of rfl) rfl (Nat.le_of_ble_eq_true rfl) (s_mono h (s_I_of (fun v37 u38 h => ?_)) (fun _ _ h9 => h9))
        show s_Ex (d + 1) 0 mX12_readUnit 65 [some (.ref (79)), none] [.int (v37), .int (0), .ref (79)] u38 Q X
        refine s_callV (a := 0) (a' := 0) (As := [.int (0), .int (v37)]) (id := 79) (st := []) kX12_emit l_12_310 (by decide +kernel) (q_id_of rfl) rfl (Nat.le_of_ble_eq_true rfl) (s_mono h (s_V_of (fun u40 h => ?_)) (fun _ _ h9 => h9))
        show s_Ex (d + 1) 0 mX12_readUnit 68 [some (.ref (79)), none] [] u40 Q X
        refine s_blk [(.goto 86, 3, 154, 0)] 154 [some (.ref (79)), none] [] u40 [] (by decide +kernel) (by refine qt_goto ?_; exact qt_z rfl rfl rfl rfl rfl) trivial ?_
        exact s_retV (by decide +kernel) rfl h
    · replace h := h.2 hc
      refine s_blk [(.aload_n 0, 1, 0, 0), (.iconst 1, 1, 0, 0)] 19 [some (.ref (79)), none] [.int (1), .ref (79)] u4 [] (by decide +kernel) (by refine qt_aload_n (r := 79) rfl ?_; refine qt_iconst qc_1 ?_; exact qt_z rfl rfl rfl rfl rfl) trivial ?_
      refine s_callV (a := 0) (a' := 0) (As := [.int (1)]) (id := 79) (st := []) kX12_opensOne l_12_316 (by decide +kernel) (q_id_of rfl) rfl (Nat.le_of_ble_eq_true rfl) (s_mono h (s_V_of (fun u42 h => ?_)) (fun _ _ h9 => h9))
      show s_Ex (d + 1) 0 mX12_readUnit 22 [some (.ref (79)), none] [] u42 Q X
      refine s_blk [(.aload_n 0, 1, 0, 0)] 23 [some (.ref (79)), none] [.ref (79)] u42 [] (by decide +kernel) (by refine qt_aload_n (r := 79) rfl ?_; exact qt_z rfl rfl rfl rfl rfl) trivial ?_
      refine s_callV (a := 0) (a' := 0) (As := []) (id := 79) (st := []) kX12_readSum l_12_319 (by decide +kernel) (q_id_of rfl) rfl (Nat.le_of_ble_eq_true rfl) (s_mono h (s_V_of (fun u44 h => ?_)) (fun _ _ h9 => h9))
      show s_Ex (d + 1) 0 mX12_readUnit 26 [some (.ref (79)), none] [] u44 Q X
      refine s_blk [(.aload_n 0, 1, 0, 0), (.bipush 41, 2, 0, 0)] 29 [some (.ref (79)), none] [.int (41), .ref (79)] u44 [] (by decide +kernel) (by refine qt_aload_n (r := 79) rfl ?_; refine qt_bipush qb_41 ?_; exact qt_z rfl rfl rfl rfl rfl) trivial ?_
      refine s_callV (a := 0) (a' := 0) (As := [.int (41)]) (id := 79) (st := []) kX12_sign l_12_297 (by decide +kernel) (q_id_of rfl) rfl (Nat.le_of_ble_eq_true rfl) (s_mono h (s_V_of (fun u46 h => ?_)) (fun _ _ h9 => h9))
      show s_Ex (d + 1) 0 mX12_readUnit 32 [some (.ref (79)), none] [] u46 Q X
      replace h := h _ rfl
      refine s_blk [(.aload_n 0, 1, 0, 0), (.dup, 1, 0, 0), (.getfield 175, 3, 12, 7), (.iconst 1, 1, 0, 0), (.isub, 1, 0, 0), (.putfield 175, 3, 12, 7), (.goto 112, 3, 154, 0)] 154 [some (.ref (79)), none] [] (q_wI u46 79 7 ((u46.1 79 7) - 1)) [q_id 116 12 79, q_id 116 12 79] (by decide +kernel) (by refine qt_aload_n (r := 79) rfl ?_; refine qt_dupR ?_; refine qt_getI rfl ?_; refine qt_iconst qc_1 ?_; refine qt_isub ?_; refine qt_putI rfl ?_; refine qt_goto ?_; exact qt_z rfl rfl rfl rfl rfl) ⟨(q_id_of rfl), (q_id_of rfl)⟩ ?_
      exact s_retV (by decide +kernel) rfl h
  · replace h := h.2 hc
    exact s_retV (by decide +kernel) rfl h
theorem eX12_readUnit {d : Nat}  {w : q_Sm} {Q : s_Po} {X : s_Xo} (h : vX12_readUnit_0 d  w Q X) : s_Ev (d + 1) 0 mX12_readUnit w [.ref (79)] Q X := s_of (by decide) rfl (Nat.le_of_ble_eq_true rfl) (xX12_readUnit_0 h)
def vX12_law_0 (d : Nat) (x1 : Int32) (w : q_Sm) (Q : s_Po) (X : s_Xo) : Prop := ∀ w_1 : q_Sm, w_1 = q_wI w 79 0 0 → ((x1 < 0) → s_EvI d 0 mX12_may w_1 [.ref (79), .int (0), .int (1), .int (1)] (fun v2 u3 => ((¬ v2 = 0) → s_EvV d 0 mX12_begins u3 [.ref (79), .int (x1)] (fun u5 => ∀ w_6 : q_Sm, w_6 = q_wI u5 79 39 0 → s_EvV d 0 mX12_readSum w_6 [.ref (79)] (fun u8 => s_EvI d 0 mX12_fine u8 [.ref (79)] (fun v9 u10 => ((v9 = 0) → s_EvI d 0 mX12_result u10 [.ref (79), .int (1)] (fun v11 u12 => (((u12.1 79 5) = (-1)) → ∀ w_13 : q_Sm, w_13 = q_wI u12 79 40 (u12.1 79 39) → s_EvV d 0 mX12_copies w_13 [.ref (79), .ref (96), .ref (98), .int (w_13.1 79 39)] (fun u15 => s_EvV d 0 mX12_copies u15 [.ref (79), .ref (97), .ref (99), .int (u15.1 79 39)] (fun u17 => Q (some (.int (v11))) u17) X) X) ∧ (¬ ((u12.1 79 5) = (-1)) → Q (some (.int (v11))) u12)) X) ∧ (¬ (v9 = 0) → s_EvI d 0 mX12_isMore u10 [.ref (79)] (fun v18 u19 => ((v18 = 0) → s_EvI d 0 mX12_result u19 [.ref (79), .int (1)] (fun v20 u21 => (((u21.1 79 5) = (-1)) → ∀ w_22 : q_Sm, w_22 = q_wI u21 79 40 (u21.1 79 39) → s_EvV d 0 mX12_copies w_22 [.ref (79), .ref (96), .ref (98), .int (w_22.1 79 39)] (fun u24 => s_EvV d 0 mX12_copies u24 [.ref (79), .ref (97), .ref (99), .int (u24.1 79 39)] (fun u26 => Q (some (.int (v20))) u26) X) X) ∧ (¬ ((u21.1 79 5) = (-1)) → Q (some (.int (v20))) u21)) X) ∧ (¬ (v18 = 0) → s_EvV d 0 mX12_wrong u19 [.ref (79), .int (1), .int (u19.1 79 4)] (fun u28 => s_EvI d 0 mX12_result u28 [.ref (79), .int (1)] (fun v29 u30 => (((u30.1 79 5) = (-1)) → ∀ w_31 : q_Sm, w_31 = q_wI u30 79 40 (u30.1 79 39) → s_EvV d 0 mX12_copies w_31 [.ref (79), .ref (96), .ref (98), .int (w_31.1 79 39)] (fun u33 => s_EvV d 0 mX12_copies u33 [.ref (79), .ref (97), .ref (99), .int (u33.1 79 39)] (fun u35 => Q (some (.int (v29))) u35) X) X) ∧ (¬ ((u30.1 79 5) = (-1)) → Q (some (.int (v29))) u30)) X) X)) X)) X) X) X) ∧ (¬ (¬ v2 = 0) → Q (some (.int (0))) u3)) X) ∧ (¬ (x1 < 0) → (((w_1.1 79 2) < x1) → s_EvI d 0 mX12_may w_1 [.ref (79), .int (0), .int (1), .int (1)] (fun v36 u37 => ((¬ v36 = 0) → s_EvV d 0 mX12_begins u37 [.ref (79), .int (x1)] (fun u39 => ∀ w_40 : q_Sm, w_40 = q_wI u39 79 39 0 → s_EvV d 0 mX12_readSum w_40 [.ref (79)] (fun u42 => s_EvI d 0 mX12_fine u42 [.ref (79)] (fun v43 u44 => ((v43 = 0) → s_EvI d 0 mX12_result u44 [.ref (79), .int (1)] (fun v45 u46 => (((u46.1 79 5) = (-1)) → ∀ w_47 : q_Sm, w_47 = q_wI u46 79 40 (u46.1 79 39) → s_EvV d 0 mX12_copies w_47 [.ref (79), .ref (96), .ref (98), .int (w_47.1 79 39)] (fun u49 => s_EvV d 0 mX12_copies u49 [.ref (79), .ref (97), .ref (99), .int (u49.1 79 39)] (fun u51 => Q (some (.int (v45))) u51) X) X) ∧ (¬ ((u46.1 79 5) = (-1)) → Q (some (.int (v45))) u46)) X) ∧ (¬ (v43 = 0) → s_EvI d 0 mX12_isMore u44 [.ref (79)] (fun v52 u53 => ((v52 = 0) → s_EvI d 0 mX12_result u53 [.ref (79), .int (1)] (fun v54 u55 => (((u55.1 79 5) = (-1)) → ∀ w_56 : q_Sm, w_56 = q_wI u55 79 40 (u55.1 79 39) → s_EvV d 0 mX12_copies w_56 [.ref (79), .ref (96), .ref (98), .int (w_56.1 79 39)] (fun u58 => s_EvV d 0 mX12_copies u58 [.ref (79), .ref (97), .ref (99), .int (u58.1 79 39)] (fun u60 => Q (some (.int (v54))) u60) X) X) ∧ (¬ ((u55.1 79 5) = (-1)) → Q (some (.int (v54))) u55)) X) ∧ (¬ (v52 = 0) → s_EvV d 0 mX12_wrong u53 [.ref (79), .int (1), .int (u53.1 79 4)] (fun u62 => s_EvI d 0 mX12_result u62 [.ref (79), .int (1)] (fun v63 u64 => (((u64.1 79 5) = (-1)) → ∀ w_65 : q_Sm, w_65 = q_wI u64 79 40 (u64.1 79 39) → s_EvV d 0 mX12_copies w_65 [.ref (79), .ref (96), .ref (98), .int (w_65.1 79 39)] (fun u67 => s_EvV d 0 mX12_copies u67 [.ref (79), .ref (97), .ref (99), .int (u67.1 79 39)] (fun u69 => Q (some (.int (v63))) u69) X) X) ∧ (¬ ((u64.1 79 5) = (-1)) → Q (some (.int (v63))) u64)) X) X)) X)) X) X) X) ∧ (¬ (¬ v36 = 0) → Q (some (.int (0))) u37)) X) ∧ (¬ ((w_1.1 79 2) < x1) → ((150 < x1) → s_EvI d 0 mX12_may w_1 [.ref (79), .int (0), .int (1), .int (1)] (fun v70 u71 => ((¬ v70 = 0) → s_EvV d 0 mX12_begins u71 [.ref (79), .int (x1)] (fun u73 => ∀ w_74 : q_Sm, w_74 = q_wI u73 79 39 0 → s_EvV d 0 mX12_readSum w_74 [.ref (79)] (fun u76 => s_EvI d 0 mX12_fine u76 [.ref (79)] (fun v77 u78 => ((v77 = 0) → s_EvI d 0 mX12_result u78 [.ref (79), .int (1)] (fun v79 u80 => (((u80.1 79 5) = (-1)) → ∀ w_81 : q_Sm, w_81 = q_wI u80 79 40 (u80.1 79 39) → s_EvV d 0 mX12_copies w_81 [.ref (79), .ref (96), .ref (98), .int (w_81.1 79 39)] (fun u83 => s_EvV d 0 mX12_copies u83 [.ref (79), .ref (97), .ref (99), .int (u83.1 79 39)] (fun u85 => Q (some (.int (v79))) u85) X) X) ∧ (¬ ((u80.1 79 5) = (-1)) → Q (some (.int (v79))) u80)) X) ∧ (¬ (v77 = 0) → s_EvI d 0 mX12_isMore u78 [.ref (79)] (fun v86 u87 => ((v86 = 0) → s_EvI d 0 mX12_result u87 [.ref (79), .int (1)] (fun v88 u89 => (((u89.1 79 5) = (-1)) → ∀ w_90 : q_Sm, w_90 = q_wI u89 79 40 (u89.1 79 39) → s_EvV d 0 mX12_copies w_90 [.ref (79), .ref (96), .ref (98), .int (w_90.1 79 39)] (fun u92 => s_EvV d 0 mX12_copies u92 [.ref (79), .ref (97), .ref (99), .int (u92.1 79 39)] (fun u94 => Q (some (.int (v88))) u94) X) X) ∧ (¬ ((u89.1 79 5) = (-1)) → Q (some (.int (v88))) u89)) X) ∧ (¬ (v86 = 0) → s_EvV d 0 mX12_wrong u87 [.ref (79), .int (1), .int (u87.1 79 4)] (fun u96 => s_EvI d 0 mX12_result u96 [.ref (79), .int (1)] (fun v97 u98 => (((u98.1 79 5) = (-1)) → ∀ w_99 : q_Sm, w_99 = q_wI u98 79 40 (u98.1 79 39) → s_EvV d 0 mX12_copies w_99 [.ref (79), .ref (96), .ref (98), .int (w_99.1 79 39)] (fun u101 => s_EvV d 0 mX12_copies u101 [.ref (79), .ref (97), .ref (99), .int (u101.1 79 39)] (fun u103 => Q (some (.int (v97))) u103) X) X) ∧ (¬ ((u98.1 79 5) = (-1)) → Q (some (.int (v97))) u98)) X) X)) X)) X) X) X) ∧ (¬ (¬ v70 = 0) → Q (some (.int (0))) u71)) X) ∧ (¬ (150 < x1) → s_EvI d 0 mX12_may w_1 [.ref (79), .int (1), .int (1), .int (1)] (fun v104 u105 => ((¬ v104 = 0) → s_EvV d 0 mX12_begins u105 [.ref (79), .int (x1)] (fun u107 => ∀ w_108 : q_Sm, w_108 = q_wI u107 79 39 0 → s_EvV d 0 mX12_readSum w_108 [.ref (79)] (fun u110 => s_EvI d 0 mX12_fine u110 [.ref (79)] (fun v111 u112 => ((v111 = 0) → s_EvI d 0 mX12_result u112 [.ref (79), .int (1)] (fun v113 u114 => (((u114.1 79 5) = (-1)) → ∀ w_115 : q_Sm, w_115 = q_wI u114 79 40 (u114.1 79 39) → s_EvV d 0 mX12_copies w_115 [.ref (79), .ref (96), .ref (98), .int (w_115.1 79 39)] (fun u117 => s_EvV d 0 mX12_copies u117 [.ref (79), .ref (97), .ref (99), .int (u117.1 79 39)] (fun u119 => Q (some (.int (v113))) u119) X) X) ∧ (¬ ((u114.1 79 5) = (-1)) → Q (some (.int (v113))) u114)) X) ∧ (¬ (v111 = 0) → s_EvI d 0 mX12_isMore u112 [.ref (79)] (fun v120 u121 => ((v120 = 0) → s_EvI d 0 mX12_result u121 [.ref (79), .int (1)] (fun v122 u123 => (((u123.1 79 5) = (-1)) → ∀ w_124 : q_Sm, w_124 = q_wI u123 79 40 (u123.1 79 39) → s_EvV d 0 mX12_copies w_124 [.ref (79), .ref (96), .ref (98), .int (w_124.1 79 39)] (fun u126 => s_EvV d 0 mX12_copies u126 [.ref (79), .ref (97), .ref (99), .int (u126.1 79 39)] (fun u128 => Q (some (.int (v122))) u128) X) X) ∧ (¬ ((u123.1 79 5) = (-1)) → Q (some (.int (v122))) u123)) X) ∧ (¬ (v120 = 0) → s_EvV d 0 mX12_wrong u121 [.ref (79), .int (1), .int (u121.1 79 4)] (fun u130 => s_EvI d 0 mX12_result u130 [.ref (79), .int (1)] (fun v131 u132 => (((u132.1 79 5) = (-1)) → ∀ w_133 : q_Sm, w_133 = q_wI u132 79 40 (u132.1 79 39) → s_EvV d 0 mX12_copies w_133 [.ref (79), .ref (96), .ref (98), .int (w_133.1 79 39)] (fun u135 => s_EvV d 0 mX12_copies u135 [.ref (79), .ref (97), .ref (99), .int (u135.1 79 39)] (fun u137 => Q (some (.int (v131))) u137) X) X) ∧ (¬ ((u132.1 79 5) = (-1)) → Q (some (.int (v131))) u132)) X) X)) X)) X) X) X) ∧ (¬ (¬ v104 = 0) → Q (some (.int (0))) u105)) X)))
theorem xX12_law_0 {d : Nat} {x1 : Int32} {w : q_Sm} {Q : s_Po} {X : s_Xo} (h : vX12_law_0 d x1 w Q X) : s_Ex (d + 1) 0 mX12_law 0 [some (.ref (79)), some (.int (x1)), none] [] w Q X := by
  unfold vX12_law_0 at h
  replace h := h _ rfl
  refine s_blk [(.aload_n 0, 1, 0, 0), (.iconst 0, 1, 0, 0), (.putfield 3, 3, 12, 0), (.aload_n 0, 1, 0, 0), (.iload_n 1, 1, 0, 0)] 7 [some (.ref (79)), some (.int (x1)), none] [.int (x1), .ref (79)] (q_wI w 79 0 0) [q_id 116 12 79] (by decide +kernel) (by refine qt_aload_n (r := 79) rfl ?_; refine qt_iconst qc_0 ?_; refine qt_putI rfl ?_; refine qt_aload_n (r := 79) rfl ?_; refine qt_iload_n (x := x1) rfl ?_; exact qt_z rfl rfl rfl rfl rfl) (q_id_of rfl) ?_
  refine s_if (cd := .lt) (off := 22) 29 (by decide +kernel) (by decide) (fun hc => ?_) (fun hc => ?_)
  · replace h := h.1 hc
    refine s_blk [(.iconst 0, 1, 0, 0), (.iconst 1, 1, 0, 0), (.iconst 1, 1, 0, 0)] 32 [some (.ref (79)), some (.int (x1)), none] [.int (1), .int (1), .int (0), .ref (79)] (q_wI w 79 0 0) [] (by decide +kernel) (by refine qt_iconst qc_0 ?_; refine qt_iconst qc_1 ?_; refine qt_iconst qc_1 ?_; exact qt_z rfl rfl rfl rfl rfl) trivial ?_
    refine s_callV (a := 0) (a' := 0) (As := [.int (0), .int (1), .int (1)]) (id := 79) (st := []) kX12_may l_12_270 (by decide +kernel) (q_id_of rfl) rfl (Nat.le_of_ble_eq_true rfl) (s_mono h (s_I_of (fun v2 u3 h => ?_)) (fun _ _ h9 => h9))
    show s_Ex (d + 1) 0 mX12_law 35 [some (.ref (79)), some (.int (x1)), none] [.int (v2)] u3 Q X
    refine s_if (cd := .ne) (off := 5) 40 (by decide +kernel) (by decide) (fun hc => ?_) (fun hc => ?_)
    · replace h := h.1 hc
      refine s_blk [(.aload_n 0, 1, 0, 0), (.iload_n 1, 1, 0, 0)] 42 [some (.ref (79)), some (.int (x1)), none] [.int (x1), .ref (79)] u3 [] (by decide +kernel) (by refine qt_aload_n (r := 79) rfl ?_; refine qt_iload_n (x := x1) rfl ?_; exact qt_z rfl rfl rfl rfl rfl) trivial ?_
      refine s_callV (a := 0) (a' := 0) (As := [.int (x1)]) (id := 79) (st := []) kX12_begins l_12_274 (by decide +kernel) (q_id_of rfl) rfl (Nat.le_of_ble_eq_true rfl) (s_mono h (s_V_of (fun u5 h => ?_)) (fun _ _ h9 => h9))
      show s_Ex (d + 1) 0 mX12_law 45 [some (.ref (79)), some (.int (x1)), none] [] u5 Q X
      replace h := h _ rfl
      refine s_blk [(.aload_n 0, 1, 0, 0), (.iconst 0, 1, 0, 0), (.putfield 304, 3, 12, 39), (.aload_n 0, 1, 0, 0)] 51 [some (.ref (79)), some (.int (x1)), none] [.ref (79)] (q_wI u5 79 39 0) [q_id 116 12 79] (by decide +kernel) (by refine qt_aload_n (r := 79) rfl ?_; refine qt_iconst qc_0 ?_; refine qt_putI rfl ?_; refine qt_aload_n (r := 79) rfl ?_; exact qt_z rfl rfl rfl rfl rfl) (q_id_of rfl) ?_
      refine s_callV (a := 0) (a' := 0) (As := []) (id := 79) (st := []) kX12_readSum l_12_319 (by decide +kernel) (q_id_of rfl) rfl (Nat.le_of_ble_eq_true rfl) (s_mono h (s_V_of (fun u8 h => ?_)) (fun _ _ h9 => h9))
      show s_Ex (d + 1) 0 mX12_law 54 [some (.ref (79)), some (.int (x1)), none] [] u8 Q X
      refine s_blk [(.aload_n 0, 1, 0, 0)] 55 [some (.ref (79)), some (.int (x1)), none] [.ref (79)] u8 [] (by decide +kernel) (by refine qt_aload_n (r := 79) rfl ?_; exact qt_z rfl rfl rfl rfl rfl) trivial ?_
      refine s_callV (a := 0) (a' := 0) (As := []) (id := 79) (st := []) kX12_fine l_12_164 (by decide +kernel) (q_id_of rfl) rfl (Nat.le_of_ble_eq_true rfl) (s_mono h (s_I_of (fun v9 u10 h => ?_)) (fun _ _ h9 => h9))
      show s_Ex (d + 1) 0 mX12_law 58 [some (.ref (79)), some (.int (x1)), none] [.int (v9)] u10 Q X
      refine s_if (cd := .eq) (off := 19) 77 (by decide +kernel) (by decide) (fun hc => ?_) (fun hc => ?_)
      · replace h := h.1 hc
        refine s_blk [(.aload_n 0, 1, 0, 0), (.iconst 1, 1, 0, 0)] 79 [some (.ref (79)), some (.int (x1)), none] [.int (1), .ref (79)] u10 [] (by decide +kernel) (by refine qt_aload_n (r := 79) rfl ?_; refine qt_iconst qc_1 ?_; exact qt_z rfl rfl rfl rfl rfl) trivial ?_
        refine s_callV (a := 0) (a' := 0) (As := [.int (1)]) (id := 79) (st := []) kX12_result l_12_300 (by decide +kernel) (q_id_of rfl) rfl (Nat.le_of_ble_eq_true rfl) (s_mono h (s_I_of (fun v11 u12 h => ?_)) (fun _ _ h9 => h9))
        show s_Ex (d + 1) 0 mX12_law 82 [some (.ref (79)), some (.int (x1)), none] [.int (v11)] u12 Q X
        refine s_blk [(.istore_n 2, 1, 0, 0), (.aload_n 0, 1, 0, 0), (.getfield 135, 3, 12, 5), (.iconst (-1), 1, 0, 0)] 88 [some (.ref (79)), some (.int (x1)), some (.int (v11))] [.int (-1), .int (u12.1 79 5)] u12 [q_id 116 12 79] (by decide +kernel) (by refine qt_istore_n (L' := [some (.ref (79)), some (.int (x1)), some (.int (v11))]) rfl ?_; refine qt_aload_n (r := 79) rfl ?_; refine qt_getI rfl ?_; refine qt_iconst qc_m1 ?_; exact qt_z rfl rfl rfl rfl rfl) (q_id_of rfl) ?_
        refine s_icmp (cd := .eq) (off := 5) 93 (by decide +kernel) (by decide) (fun hc => ?_) (fun hc => ?_)
        · replace h := h.1 hc
          replace h := h _ rfl
          refine s_blk [(.aload_n 0, 1, 0, 0), (.aload_n 0, 1, 0, 0), (.getfield 304, 3, 12, 39), (.putfield 212, 3, 12, 40), (.aload_n 0, 1, 0, 0), (.aload_n 0, 1, 0, 0), (.getfield 65, 3, 12, 34), (.aload_n 0, 1, 0, 0), (.getfield 71, 3, 12, 36), (.aload_n 0, 1, 0, 0), (.getfield 304, 3, 12, 39)] 114 [some (.ref (79)), some (.int (x1)), some (.int (v11))] [.int ((q_wI u12 79 40 (u12.1 79 39)).1 79 39), .ref (98), .ref (96), .ref (79)] (q_wI u12 79 40 (u12.1 79 39)) [q_id 116 12 79, q_id 116 12 79, q_id 116 12 79, q_id 116 12 79, q_id 116 12 79] (by decide +kernel) (by refine qt_aload_n (r := 79) rfl ?_; refine qt_aload_n (r := 79) rfl ?_; refine qt_getI rfl ?_; refine qt_putI rfl ?_; refine qt_aload_n (r := 79) rfl ?_; refine qt_aload_n (r := 79) rfl ?_; refine qt_getR (r := 96) rfl rfl ?_; refine qt_aload_n (r := 79) rfl ?_; refine qt_getR (r := 98) rfl rfl ?_; refine qt_aload_n (r := 79) rfl ?_; refine qt_getI rfl ?_; exact qt_z rfl rfl rfl rfl rfl) ⟨(q_id_of rfl), (q_id_of rfl), (q_id_of rfl), (q_id_of rfl), (q_id_of rfl)⟩ ?_
          refine s_callV (a := 0) (a' := 0) (As := [.ref (96), .ref (98), .int ((q_wI u12 79 40 (u12.1 79 39)).1 79 39)]) (id := 79) (st := []) kX12_copies l_12_208 (by decide +kernel) (q_id_of rfl) rfl (Nat.le_of_ble_eq_true rfl) (s_mono h (s_V_of (fun u15 h => ?_)) (fun _ _ h9 => h9))
          show s_Ex (d + 1) 0 mX12_law 117 [some (.ref (79)), some (.int (x1)), some (.int (v11))] [] u15 Q X
          refine s_blk [(.aload_n 0, 1, 0, 0), (.aload_n 0, 1, 0, 0), (.getfield 68, 3, 12, 35), (.aload_n 0, 1, 0, 0), (.getfield 74, 3, 12, 37), (.aload_n 0, 1, 0, 0), (.getfield 304, 3, 12, 39)] 130 [some (.ref (79)), some (.int (x1)), some (.int (v11))] [.int (u15.1 79 39), .ref (99), .ref (97), .ref (79)] u15 [q_id 116 12 79, q_id 116 12 79, q_id 116 12 79] (by decide +kernel) (by refine qt_aload_n (r := 79) rfl ?_; refine qt_aload_n (r := 79) rfl ?_; refine qt_getR (r := 97) rfl rfl ?_; refine qt_aload_n (r := 79) rfl ?_; refine qt_getR (r := 99) rfl rfl ?_; refine qt_aload_n (r := 79) rfl ?_; refine qt_getI rfl ?_; exact qt_z rfl rfl rfl rfl rfl) ⟨(q_id_of rfl), (q_id_of rfl), (q_id_of rfl)⟩ ?_
          refine s_callV (a := 0) (a' := 0) (As := [.ref (97), .ref (99), .int (u15.1 79 39)]) (id := 79) (st := []) kX12_copies l_12_208 (by decide +kernel) (q_id_of rfl) rfl (Nat.le_of_ble_eq_true rfl) (s_mono h (s_V_of (fun u17 h => ?_)) (fun _ _ h9 => h9))
          show s_Ex (d + 1) 0 mX12_law 133 [some (.ref (79)), some (.int (x1)), some (.int (v11))] [] u17 Q X
          refine s_blk [(.iload_n 2, 1, 0, 0)] 134 [some (.ref (79)), some (.int (x1)), some (.int (v11))] [.int (v11)] u17 [] (by decide +kernel) (by refine qt_iload_n (x := v11) rfl ?_; exact qt_z rfl rfl rfl rfl rfl) trivial ?_
          exact s_retI .int (by decide +kernel) rfl rfl h
        · replace h := h.2 hc
          refine s_blk [(.iload_n 2, 1, 0, 0)] 92 [some (.ref (79)), some (.int (x1)), some (.int (v11))] [.int (v11)] u12 [] (by decide +kernel) (by refine qt_iload_n (x := v11) rfl ?_; exact qt_z rfl rfl rfl rfl rfl) trivial ?_
          exact s_retI .int (by decide +kernel) rfl rfl h
      · replace h := h.2 hc
        refine s_blk [(.aload_n 0, 1, 0, 0)] 62 [some (.ref (79)), some (.int (x1)), none] [.ref (79)] u10 [] (by decide +kernel) (by refine qt_aload_n (r := 79) rfl ?_; exact qt_z rfl rfl rfl rfl rfl) trivial ?_
        refine s_callV (a := 0) (a' := 0) (As := []) (id := 79) (st := []) kX12_isMore l_12_278 (by decide +kernel) (q_id_of rfl) rfl (Nat.le_of_ble_eq_true rfl) (s_mono h (s_I_of (fun v18 u19 h => ?_)) (fun _ _ h9 => h9))
        show s_Ex (d + 1) 0 mX12_law 65 [some (.ref (79)), some (.int (x1)), none] [.int (v18)] u19 Q X
        refine s_if (cd := .eq) (off := 12) 77 (by decide +kernel) (by decide) (fun hc => ?_) (fun hc => ?_)
        · replace h := h.1 hc
          refine s_blk [(.aload_n 0, 1, 0, 0), (.iconst 1, 1, 0, 0)] 79 [some (.ref (79)), some (.int (x1)), none] [.int (1), .ref (79)] u19 [] (by decide +kernel) (by refine qt_aload_n (r := 79) rfl ?_; refine qt_iconst qc_1 ?_; exact qt_z rfl rfl rfl rfl rfl) trivial ?_
          refine s_callV (a := 0) (a' := 0) (As := [.int (1)]) (id := 79) (st := []) kX12_result l_12_300 (by decide +kernel) (q_id_of rfl) rfl (Nat.le_of_ble_eq_true rfl) (s_mono h (s_I_of (fun v20 u21 h => ?_)) (fun _ _ h9 => h9))
          show s_Ex (d + 1) 0 mX12_law 82 [some (.ref (79)), some (.int (x1)), none] [.int (v20)] u21 Q X
          refine s_blk [(.istore_n 2, 1, 0, 0), (.aload_n 0, 1, 0, 0), (.getfield 135, 3, 12, 5), (.iconst (-1), 1, 0, 0)] 88 [some (.ref (79)), some (.int (x1)), some (.int (v20))] [.int (-1), .int (u21.1 79 5)] u21 [q_id 116 12 79] (by decide +kernel) (by refine qt_istore_n (L' := [some (.ref (79)), some (.int (x1)), some (.int (v20))]) rfl ?_; refine qt_aload_n (r := 79) rfl ?_; refine qt_getI rfl ?_; refine qt_iconst qc_m1 ?_; exact qt_z rfl rfl rfl rfl rfl) (q_id_of rfl) ?_
          refine s_icmp (cd := .eq) (off := 5) 93 (by decide +kernel) (by decide) (fun hc => ?_) (fun hc => ?_)
          · replace h := h.1 hc
            replace h := h _ rfl
            refine s_blk [(.aload_n 0, 1, 0, 0), (.aload_n 0, 1, 0, 0), (.getfield 304, 3, 12, 39), (.putfield 212, 3, 12, 40), (.aload_n 0, 1, 0, 0), (.aload_n 0, 1, 0, 0), (.getfield 65, 3, 12, 34), (.aload_n 0, 1, 0, 0), (.getfield 71, 3, 12, 36), (.aload_n 0, 1, 0, 0), (.getfield 304, 3, 12, 39)] 114 [some (.ref (79)), some (.int (x1)), some (.int (v20))] [.int ((q_wI u21 79 40 (u21.1 79 39)).1 79 39), .ref (98), .ref (96), .ref (79)] (q_wI u21 79 40 (u21.1 79 39)) [q_id 116 12 79, q_id 116 12 79, q_id 116 12 79, q_id 116 12 79, q_id 116 12 79] (by decide +kernel) (by refine qt_aload_n (r := 79) rfl ?_; refine qt_aload_n (r := 79) rfl ?_; refine qt_getI rfl ?_; refine qt_putI rfl ?_; refine qt_aload_n (r := 79) rfl ?_; refine qt_aload_n (r := 79) rfl ?_; refine qt_getR (r := 96) rfl rfl ?_; refine qt_aload_n (r := 79) rfl ?_; refine qt_getR (r := 98) rfl rfl ?_; refine qt_aload_n (r := 79) rfl ?_; refine qt_getI rfl ?_; exact qt_z rfl rfl rfl rfl rfl) ⟨(q_id_of rfl), (q_id_of rfl), (q_id_of rfl), (q_id_of rfl), (q_id_of rfl)⟩ ?_
            refine s_callV (a := 0) (a' := 0) (As := [.ref (96), .ref (98), .int ((q_wI u21 79 40 (u21.1 79 39)).1 79 39)]) (id := 79) (st := []) kX12_copies l_12_208 (by decide +kernel) (q_id_of rfl) rfl (Nat.le_of_ble_eq_true rfl) (s_mono h (s_V_of (fun u24 h => ?_)) (fun _ _ h9 => h9))
            show s_Ex (d + 1) 0 mX12_law 117 [some (.ref (79)), some (.int (x1)), some (.int (v20))] [] u24 Q X
            refine s_blk [(.aload_n 0, 1, 0, 0), (.aload_n 0, 1, 0, 0), (.getfield 68, 3, 12, 35), (.aload_n 0, 1, 0, 0), (.getfield 74, 3, 12, 37), (.aload_n 0, 1, 0, 0), (.getfield 304, 3, 12, 39)] 130 [some (.ref (79)), some (.int (x1)), some (.int (v20))] [.int (u24.1 79 39), .ref (99), .ref (97), .ref (79)] u24 [q_id 116 12 79, q_id 116 12 79, q_id 116 12 79] (by decide +kernel) (by refine qt_aload_n (r := 79) rfl ?_; refine qt_aload_n (r := 79) rfl ?_; refine qt_getR (r := 97) rfl rfl ?_; refine qt_aload_n (r := 79) rfl ?_; refine qt_getR (r := 99) rfl rfl ?_; refine qt_aload_n (r := 79) rfl ?_; refine qt_getI rfl ?_; exact qt_z rfl rfl rfl rfl rfl) ⟨(q_id_of rfl), (q_id_of rfl), (q_id_of rfl)⟩ ?_
            refine s_callV (a := 0) (a' := 0) (As := [.ref (97), .ref (99), .int (u24.1 79 39)]) (id := 79) (st := []) kX12_copies l_12_208 (by decide +kernel) (q_id_of rfl) rfl (Nat.le_of_ble_eq_true rfl) (s_mono h (s_V_of (fun u26 h => ?_)) (fun _ _ h9 => h9))
            show s_Ex (d + 1) 0 mX12_law 133 [some (.ref (79)), some (.int (x1)), some (.int (v20))] [] u26 Q X
            refine s_blk [(.iload_n 2, 1, 0, 0)] 134 [some (.ref (79)), some (.int (x1)), some (.int (v20))] [.int (v20)] u26 [] (by decide +kernel) (by refine qt_iload_n (x := v20) rfl ?_; exact qt_z rfl rfl rfl rfl rfl) trivial ?_
            exact s_retI .int (by decide +kernel) rfl rfl h
          · replace h := h.2 hc
            refine s_blk [(.iload_n 2, 1, 0, 0)] 92 [some (.ref (79)), some (.int (x1)), some (.int (v20))] [.int (v20)] u21 [] (by decide +kernel) (by refine qt_iload_n (x := v20) rfl ?_; exact qt_z rfl rfl rfl rfl rfl) trivial ?_
            exact s_retI .int (by decide +kernel) rfl rfl h
        · replace h := h.2 hc
          refine s_blk [(.aload_n 0, 1, 0, 0), (.iconst 1, 1, 0, 0), (.aload_n 0, 1, 0, 0), (.getfield 141, 3, 12, 4)] 74 [some (.ref (79)), some (.int (x1)), none] [.int (u19.1 79 4), .int (1), .ref (79)] u19 [q_id 116 12 79] (by decide +kernel) (by refine qt_aload_n (r := 79) rfl ?_; refine qt_iconst qc_1 ?_; refine qt_aload_n (r := 79) rfl ?_; refine qt_getI rfl ?_; exact qt_z rfl rfl rfl rfl rfl) (q_id_of rfl) ?_
          refine s_callV (a := 0) (a' := 0) (As := [.int (1), .int (u19.1 79 4)]) (id := 79) (st := []) kX12_wrong l_12_171 (by decide +kernel) (q_id_of rfl) rfl (Nat.le_of_ble_eq_true rfl) (s_mono h (s_V_of (fun u28 h => ?_)) (fun _ _ h9 => h9))
          show s_Ex (d + 1) 0 mX12_law 77 [some (.ref (79)), some (.int (x1)), none] [] u28 Q X
          refine s_blk [(.aload_n 0, 1, 0, 0), (.iconst 1, 1, 0, 0)] 79 [some (.ref (79)), some (.int (x1)), none] [.int (1), .ref (79)] u28 [] (by decide +kernel) (by refine qt_aload_n (r := 79) rfl ?_; refine qt_iconst qc_1 ?_; exact qt_z rfl rfl rfl rfl rfl) trivial ?_
          refine s_callV (a := 0) (a' := 0) (As := [.int (1)]) (id := 79) (st := []) kX12_result l_12_300 (by decide +kernel) (q_id_of rfl) rfl (Nat.le_of_ble_eq_true rfl) (s_mono h (s_I_of (fun v29 u30 h => ?_)) (fun _ _ h9 => h9))
          show s_Ex (d + 1) 0 mX12_law 82 [some (.ref (79)), some (.int (x1)), none] [.int (v29)] u30 Q X
          refine s_blk [(.istore_n 2, 1, 0, 0), (.aload_n 0, 1, 0, 0), (.getfield 135, 3, 12, 5), (.iconst (-1), 1, 0, 0)] 88 [some (.ref (79)), some (.int (x1)), some (.int (v29))] [.int (-1), .int (u30.1 79 5)] u30 [q_id 116 12 79] (by decide +kernel) (by refine qt_istore_n (L' := [some (.ref (79)), some (.int (x1)), some (.int (v29))]) rfl ?_; refine qt_aload_n (r := 79) rfl ?_; refine qt_getI rfl ?_; refine qt_iconst qc_m1 ?_; exact qt_z rfl rfl rfl rfl rfl) (q_id_of rfl) ?_
          refine s_icmp (cd := .eq) (off := 5) 93 (by decide +kernel) (by decide) (fun hc => ?_) (fun hc => ?_)
          · replace h := h.1 hc
            replace h := h _ rfl
            refine s_blk [(.aload_n 0, 1, 0, 0), (.aload_n 0, 1, 0, 0), (.getfield 304, 3, 12, 39), (.putfield 212, 3, 12, 40), (.aload_n 0, 1, 0, 0), (.aload_n 0, 1, 0, 0), (.getfield 65, 3, 12, 34), (.aload_n 0, 1, 0, 0), (.getfield 71, 3, 12, 36), (.aload_n 0, 1, 0, 0), (.getfield 304, 3, 12, 39)] 114 [some (.ref (79)), some (.int (x1)), some (.int (v29))] [.int ((q_wI u30 79 40 (u30.1 79 39)).1 79 39), .ref (98), .ref (96), .ref (79)] (q_wI u30 79 40 (u30.1 79 39)) [q_id 116 12 79, q_id 116 12 79, q_id 116 12 79, q_id 116 12 79, q_id 116 12 79] (by decide +kernel) (by refine qt_aload_n (r := 79) rfl ?_; refine qt_aload_n (r := 79) rfl ?_; refine qt_getI rfl ?_; refine qt_putI rfl ?_; refine qt_aload_n (r := 79) rfl ?_; refine qt_aload_n (r := 79) rfl ?_; refine qt_getR (r := 96) rfl rfl ?_; refine qt_aload_n (r := 79) rfl ?_; refine qt_getR (r := 98) rfl rfl ?_; refine qt_aload_n (r := 79) rfl ?_; refine qt_getI rfl ?_; exact qt_z rfl rfl rfl rfl rfl) ⟨(q_id_of rfl), (q_id_of rfl), (q_id_of rfl), (q_id_of rfl), (q_id_of rfl)⟩ ?_
            refine s_callV (a := 0) (a' := 0) (As := [.ref (96), .ref (98), .int ((q_wI u30 79 40 (u30.1 79 39)).1 79 39)]) (id := 79) (st := []) kX12_copies l_12_208 (by decide +kernel) (q_id_of rfl) rfl (Nat.le_of_ble_eq_true rfl) (s_mono h (s_V_of (fun u33 h => ?_)) (fun _ _ h9 => h9))
            show s_Ex (d + 1) 0 mX12_law 117 [some (.ref (79)), some (.int (x1)), some (.int (v29))] [] u33 Q X
            refine s_blk [(.aload_n 0, 1, 0, 0), (.aload_n 0, 1, 0, 0), (.getfield 68, 3, 12, 35), (.aload_n 0, 1, 0, 0), (.getfield 74, 3, 12, 37), (.aload_n 0, 1, 0, 0), (.getfield 304, 3, 12, 39)] 130 [some (.ref (79)), some (.int (x1)), some (.int (v29))] [.int (u33.1 79 39), .ref (99), .ref (97), .ref (79)] u33 [q_id 116 12 79, q_id 116 12 79, q_id 116 12 79] (by decide +kernel) (by refine qt_aload_n (r := 79) rfl ?_; refine qt_aload_n (r := 79) rfl ?_; refine qt_getR (r := 97) rfl rfl ?_; refine qt_aload_n (r := 79) rfl ?_; refine qt_getR (r := 99) rfl rfl ?_; refine qt_aload_n (r := 79) rfl ?_; refine qt_getI rfl ?_; exact qt_z rfl rfl rfl rfl rfl) ⟨(q_id_of rfl), (q_id_of rfl), (q_id_of rfl)⟩ ?_
            refine s_callV (a := 0) (a' := 0) (As := [.ref (97), .ref (99), .int (u33.1 79 39)]) (id := 79) (st := []) kX12_copies l_12_208 (by decide +kernel) (q_id_of rfl) rfl (Nat.le_of_ble_eq_true rfl) (s_mono h (s_V_of (fun u35 h => ?_)) (fun _ _ h9 => h9))
            show s_Ex (d + 1) 0 mX12_law 133 [some (.ref (79)), some (.int (x1)), some (.int (v29))] [] u35 Q X
            refine s_blk [(.iload_n 2, 1, 0, 0)] 134 [some (.ref (79)), some (.int (x1)), some (.int (v29))] [.int (v29)] u35 [] (by decide +kernel) (by refine qt_iload_n (x := v29) rfl ?_; exact qt_z rfl rfl rfl rfl rfl) trivial ?_
            exact s_retI .int (by decide +kernel) rfl rfl h
          · replace h := h.2 hc
            refine s_blk [(.iload_n 2, 1, 0, 0)] 92 [some (.ref (79)), some (.int (x1)), some (.int (v29))] [.int (v29)] u30 [] (by decide +kernel) (by refine qt_iload_n (x := v29) rfl ?_; exact qt_z rfl rfl rfl rfl rfl) trivial ?_
            exact s_retI .int (by decide +kernel) rfl rfl h
    · replace h := h.2 hc
      refine s_blk [(.iconst 0, 1, 0, 0)] 39 [some (.ref (79)), some (.int (x1)), none] [.int (0)] u3 [] (by decide +kernel) (by refine qt_iconst qc_0 ?_; exact qt_z rfl rfl rfl rfl rfl) trivial ?_
      exact s_retI .int (by decide +kernel) rfl rfl h
  · replace h := h.2 hc
    refine s_blk [(.iload_n 1, 1, 0, 0), (.aload_n 0, 1, 0, 0), (.getfield 132, 3, 12, 2)] 15 [some (.ref (79)), some (.int (x1)), none] [.int ((q_wI w 79 0 0).1 79 2), .int (x1), .ref (79)] (q_wI w 79 0 0) [q_id 116 12 79] (by decide +kernel) (by refine qt_iload_n (x := x1) rfl ?_; refine qt_aload_n (r := 79) rfl ?_; refine qt_getI rfl ?_; exact qt_z rfl rfl rfl rfl rfl) (q_id_of rfl) ?_
    refine s_icmp (cd := .gt) (off := 14) 29 (by decide +kernel) (by decide) (fun hc => ?_) (fun hc => ?_)
    · replace h := h.1 hc
      refine s_blk [(.iconst 0, 1, 0, 0), (.iconst 1, 1, 0, 0), (.iconst 1, 1, 0, 0)] 32 [some (.ref (79)), some (.int (x1)), none] [.int (1), .int (1), .int (0), .ref (79)] (q_wI w 79 0 0) [] (by decide +kernel) (by refine qt_iconst qc_0 ?_; refine qt_iconst qc_1 ?_; refine qt_iconst qc_1 ?_; exact qt_z rfl rfl rfl rfl rfl) trivial ?_
      refine s_callV (a := 0) (a' := 0) (As := [.int (0), .int (1), .int (1)]) (id := 79) (st := []) kX12_may l_12_270 (by decide +kernel) (q_id_of rfl) rfl (Nat.le_of_ble_eq_true rfl) (s_mono h (s_I_of (fun v36 u37 h => ?_)) (fun _ _ h9 => h9))
      show s_Ex (d + 1) 0 mX12_law 35 [some (.ref (79)), some (.int (x1)), none] [.int (v36)] u37 Q X
      refine s_if (cd := .ne) (off := 5) 40 (by decide +kernel) (by decide) (fun hc => ?_) (fun hc => ?_)
      · replace h := h.1 hc
        refine s_blk [(.aload_n 0, 1, 0, 0), (.iload_n 1, 1, 0, 0)] 42 [some (.ref (79)), some (.int (x1)), none] [.int (x1), .ref (79)] u37 [] (by decide +kernel) (by refine qt_aload_n (r := 79) rfl ?_; refine qt_iload_n (x := x1) rfl ?_; exact qt_z rfl rfl rfl rfl rfl) trivial ?_
        refine s_callV (a := 0) (a' := 0) (As := [.int (x1)]) (id := 79) (st := []) kX12_begins l_12_274 (by decide +kernel) (q_id_of rfl) rfl (Nat.le_of_ble_eq_true rfl) (s_mono h (s_V_of (fun u39 h => ?_)) (fun _ _ h9 => h9))
        show s_Ex (d + 1) 0 mX12_law 45 [some (.ref (79)), some (.int (x1)), none] [] u39 Q X
        replace h := h _ rfl
        refine s_blk [(.aload_n 0, 1, 0, 0), (.iconst 0, 1, 0, 0), (.putfield 304, 3, 12, 39), (.aload_n 0, 1, 0, 0)] 51 [some (.ref (79)), some (.int (x1)), none] [.ref (79)] (q_wI u39 79 39 0) [q_id 116 12 79] (by decide +kernel) (by refine qt_aload_n (r := 79) rfl ?_; refine qt_iconst qc_0 ?_; refine qt_putI rfl ?_; refine qt_aload_n (r := 79) rfl ?_; exact qt_z rfl rfl rfl rfl rfl) (q_id_of rfl) ?_
        refine s_callV (a := 0) (a' := 0) (As := []) (id := 79) (st := []) kX12_readSum l_12_319 (by decide +kernel) (q_id_of rfl) rfl (Nat.le_of_ble_eq_true rfl) (s_mono h (s_V_of (fun u42 h => ?_)) (fun _ _ h9 => h9))
        show s_Ex (d + 1) 0 mX12_law 54 [some (.ref (79)), some (.int (x1)), none] [] u42 Q X
        refine s_blk [(.aload_n 0, 1, 0, 0)] 55 [some (.ref (79)), some (.int (x1)), none] [.ref (79)] u42 [] (by decide +kernel) (by refine qt_aload_n (r := 79) rfl ?_; exact qt_z rfl rfl rfl rfl rfl) trivial ?_
        refine s_callV (a := 0) (a' := 0) (As := []) (id := 79) (st := []) kX12_fine l_12_164 (by decide +kernel) (q_id_of rfl) rfl (Nat.le_of_ble_eq_true rfl) (s_mono h (s_I_of (fun v43 u44 h => ?_)) (fun _ _ h9 => h9))
        show s_Ex (d + 1) 0 mX12_law 58 [some (.ref (79)), some (.int (x1)), none] [.int (v43)] u44 Q X
        refine s_if (cd := .eq) (off := 19) 77 (by decide +kernel) (by decide) (fun hc => ?_) (fun hc => ?_)
        · replace h := h.1 hc
          refine s_blk [(.aload_n 0, 1, 0, 0), (.iconst 1, 1, 0, 0)] 79 [some (.ref (79)), some (.int (x1)), none] [.int (1), .ref (79)] u44 [] (by decide +kernel) (by refine qt_aload_n (r := 79) rfl ?_; refine qt_iconst qc_1 ?_; exact qt_z rfl rfl rfl rfl rfl) trivial ?_
          refine s_callV (a := 0) (a' := 0) (As := [.int (1)]) (id := 79) (st := []) kX12_result l_12_300 (by decide +kernel) (q_id_of rfl) rfl (Nat.le_of_ble_eq_true rfl) (s_mono h (s_I_of (fun v45 u46 h => ?_)) (fun _ _ h9 => h9))
          show s_Ex (d + 1) 0 mX12_law 82 [some (.ref (79)), some (.int (x1)), none] [.int (v45)] u46 Q X
          refine s_blk [(.istore_n 2, 1, 0, 0), (.aload_n 0, 1, 0, 0), (.getfield 135, 3, 12, 5), (.iconst (-1), 1, 0, 0)] 88 [some (.ref (79)), some (.int (x1)), some (.int (v45))] [.int (-1), .int (u46.1 79 5)] u46 [q_id 116 12 79] (by decide +kernel) (by refine qt_istore_n (L' := [some (.ref (79)), some (.int (x1)), some (.int (v45))]) rfl ?_; refine qt_aload_n (r := 79) rfl ?_; refine qt_getI rfl ?_; refine qt_iconst qc_m1 ?_; exact qt_z rfl rfl rfl rfl rfl) (q_id_of rfl) ?_
          refine s_icmp (cd := .eq) (off := 5) 93 (by decide +kernel) (by decide) (fun hc => ?_) (fun hc => ?_)
          · replace h := h.1 hc
            replace h := h _ rfl
            refine s_blk [(.aload_n 0, 1, 0, 0), (.aload_n 0, 1, 0, 0), (.getfield 304, 3, 12, 39), (.putfield 212, 3, 12, 40), (.aload_n 0, 1, 0, 0), (.aload_n 0, 1, 0, 0), (.getfield 65, 3, 12, 34), (.aload_n 0, 1, 0, 0), (.getfield 71, 3, 12, 36), (.aload_n 0, 1, 0, 0), (.getfield 304, 3, 12, 39)] 114 [some (.ref (79)), some (.int (x1)), some (.int (v45))] [.int ((q_wI u46 79 40 (u46.1 79 39)).1 79 39), .ref (98), .ref (96), .ref (79)] (q_wI u46 79 40 (u46.1 79 39)) [q_id 116 12 79, q_id 116 12 79, q_id 116 12 79, q_id 116 12 79, q_id 116 12 79] (by decide +kernel) (by refine qt_aload_n (r := 79) rfl ?_; refine qt_aload_n (r := 79) rfl ?_; refine qt_getI rfl ?_; refine qt_putI rfl ?_; refine qt_aload_n (r := 79) rfl ?_; refine qt_aload_n (r := 79) rfl ?_; refine qt_getR (r := 96) rfl rfl ?_; refine qt_aload_n (r := 79) rfl ?_; refine qt_getR (r := 98) rfl rfl ?_; refine qt_aload_n (r := 79) rfl ?_; refine qt_getI rfl ?_; exact qt_z rfl rfl rfl rfl rfl) ⟨(q_id_of rfl), (q_id_of rfl), (q_id_of rfl), (q_id_of rfl), (q_id_of rfl)⟩ ?_
            refine s_callV (a := 0) (a' := 0) (As := [.ref (96), .ref (98), .int ((q_wI u46 79 40 (u46.1 79 39)).1 79 39)]) (id := 79) (st := []) kX12_copies l_12_208 (by decide +kernel) (q_id_of rfl) rfl (Nat.le_of_ble_eq_true rfl) (s_mono h (s_V_of (fun u49 h => ?_)) (fun _ _ h9 => h9))
            show s_Ex (d + 1) 0 mX12_law 117 [some (.ref (79)), some (.int (x1)), some (.int (v45))] [] u49 Q X
            refine s_blk [(.aload_n 0, 1, 0, 0), (.aload_n 0, 1, 0, 0), (.getfield 68, 3, 12, 35), (.aload_n 0, 1, 0, 0), (.getfield 74, 3, 12, 37), (.aload_n 0, 1, 0, 0), (.getfield 304, 3, 12, 39)] 130 [some (.ref (79)), some (.int (x1)), some (.int (v45))] [.int (u49.1 79 39), .ref (99), .ref (97), .ref (79)] u49 [q_id 116 12 79, q_id 116 12 79, q_id 116 12 79] (by decide +kernel) (by refine qt_aload_n (r := 79) rfl ?_; refine qt_aload_n (r := 79) rfl ?_; refine qt_getR (r := 97) rfl rfl ?_; refine qt_aload_n (r := 79) rfl ?_; refine qt_getR (r := 99) rfl rfl ?_; refine qt_aload_n (r := 79) rfl ?_; refine qt_getI rfl ?_; exact qt_z rfl rfl rfl rfl rfl) ⟨(q_id_of rfl), (q_id_of rfl), (q_id_of rfl)⟩ ?_
            refine s_callV (a := 0) (a' := 0) (As := [.ref (97), .ref (99), .int (u49.1 79 39)]) (id := 79) (st := []) kX12_copies l_12_208 (by decide +kernel) (q_id_of rfl) rfl (Nat.le_of_ble_eq_true rfl) (s_mono h (s_V_of (fun u51 h => ?_)) (fun _ _ h9 => h9))
            show s_Ex (d + 1) 0 mX12_law 133 [some (.ref (79)), some (.int (x1)), some (.int (v45))] [] u51 Q X
            refine s_blk [(.iload_n 2, 1, 0, 0)] 134 [some (.ref (79)), some (.int (x1)), some (.int (v45))] [.int (v45)] u51 [] (by decide +kernel) (by refine qt_iload_n (x := v45) rfl ?_; exact qt_z rfl rfl rfl rfl rfl) trivial ?_
            exact s_retI .int (by decide +kernel) rfl rfl h
          · replace h := h.2 hc
            refine s_blk [(.iload_n 2, 1, 0, 0)] 92 [some (.ref (79)), some (.int (x1)), some (.int (v45))] [.int (v45)] u46 [] (by decide +kernel) (by refine qt_iload_n (x := v45) rfl ?_; exact qt_z rfl rfl rfl rfl rfl) trivial ?_
            exact s_retI .int (by decide +kernel) rfl rfl h
        · replace h := h.2 hc
          refine s_blk [(.aload_n 0, 1, 0, 0)] 62 [some (.ref (79)), some (.int (x1)), none] [.ref (79)] u44 [] (by decide +kernel) (by refine qt_aload_n (r := 79) rfl ?_; exact qt_z rfl rfl rfl rfl rfl) trivial ?_
          refine s_callV (a := 0) (a' := 0) (As := []) (id := 79) (st := []) kX12_isMore l_12_278 (by decide +kernel) (q_id_of rfl) rfl (Nat.le_of_ble_eq_true rfl) (s_mono h (s_I_of (fun v52 u53 h => ?_)) (fun _ _ h9 => h9))
          show s_Ex (d + 1) 0 mX12_law 65 [some (.ref (79)), some (.int (x1)), none] [.int (v52)] u53 Q X
          refine s_if (cd := .eq) (off := 12) 77 (by decide +kernel) (by decide) (fun hc => ?_) (fun hc => ?_)
          · replace h := h.1 hc
            refine s_blk [(.aload_n 0, 1, 0, 0), (.iconst 1, 1, 0, 0)] 79 [some (.ref (79)), some (.int (x1)), none] [.int (1), .ref (79)] u53 [] (by decide +kernel) (by refine qt_aload_n (r := 79) rfl ?_; refine qt_iconst qc_1 ?_; exact qt_z rfl rfl rfl rfl rfl) trivial ?_
            refine s_callV (a := 0) (a' := 0) (As := [.int (1)]) (id := 79) (st := []) kX12_result l_12_300 (by decide +kernel) (q_id_of rfl) rfl (Nat.le_of_ble_eq_true rfl) (s_mono h (s_I_of (fun v54 u55 h => ?_)) (fun _ _ h9 => h9))
            show s_Ex (d + 1) 0 mX12_law 82 [some (.ref (79)), some (.int (x1)), none] [.int (v54)] u55 Q X
            refine s_blk [(.istore_n 2, 1, 0, 0), (.aload_n 0, 1, 0, 0), (.getfield 135, 3, 12, 5), (.iconst (-1), 1, 0, 0)] 88 [some (.ref (79)), some (.int (x1)), some (.int (v54))] [.int (-1), .int (u55.1 79 5)] u55 [q_id 116 12 79] (by decide +kernel) (by refine qt_istore_n (L' := [some (.ref (79)), some (.int (x1)), some (.int (v54))]) rfl ?_; refine qt_aload_n (r := 79) rfl ?_; refine qt_getI rfl ?_; refine qt_iconst qc_m1 ?_; exact qt_z rfl rfl rfl rfl rfl) (q_id_of rfl) ?_
            refine s_icmp (cd := .eq) (off := 5) 93 (by decide +kernel) (by decide) (fun hc => ?_) (fun hc => ?_)
            · replace h := h.1 hc
              replace h := h _ rfl
              refine s_blk [(.aload_n 0, 1, 0, 0), (.aload_n 0, 1, 0, 0), (.getfield 304, 3, 12, 39), (.putfield 212, 3, 12, 40), (.aload_n 0, 1, 0, 0), (.aload_n 0, 1, 0, 0), (.getfield 65, 3, 12, 34), (.aload_n 0, 1, 0, 0), (.getfield 71, 3, 12, 36), (.aload_n 0, 1, 0, 0), (.getfield 304, 3, 12, 39)] 114 [some (.ref (79)), some (.int (x1)), some (.int (v54))] [.int ((q_wI u55 79 40 (u55.1 79 39)).1 79 39), .ref (98), .ref (96), .ref (79)] (q_wI u55 79 40 (u55.1 79 39)) [q_id 116 12 79, q_id 116 12 79, q_id 116 12 79, q_id 116 12 79, q_id 116 12 79] (by decide +kernel) (by refine qt_aload_n (r := 79) rfl ?_; refine qt_aload_n (r := 79) rfl ?_; refine qt_getI rfl ?_; refine qt_putI rfl ?_; refine qt_aload_n (r := 79) rfl ?_; refine qt_aload_n (r := 79) rfl ?_; refine qt_getR (r := 96) rfl rfl ?_; refine qt_aload_n (r := 79) rfl ?_; refine qt_getR (r := 98) rfl rfl ?_; refine qt_aload_n (r := 79) rfl ?_; refine qt_getI rfl ?_; exact qt_z rfl rfl rfl rfl rfl) ⟨(q_id_of rfl), (q_id_of rfl), (q_id_of rfl), (q_id_of rfl), (q_id_of rfl)⟩ ?_
              refine s_callV (a := 0) (a' := 0) (As := [.ref (96), .ref (98), .int ((q_wI u55 79 40 (u55.1 79 39)).1 79 39)]) (id := 79) (st := []) kX12_copies l_12_208 (by decide +kernel) (q_id_of rfl) rfl (Nat.le_of_ble_eq_true rfl) (s_mono h (s_V_of (fun u58 h => ?_)) (fun _ _ h9 => h9))
              show s_Ex (d + 1) 0 mX12_law 117 [some (.ref (79)), some (.int (x1)), some (.int (v54))] [] u58 Q X
              refine s_blk [(.aload_n 0, 1, 0, 0), (.aload_n 0, 1, 0, 0), (.getfield 68, 3, 12, 35), (.aload_n 0, 1, 0, 0), (.getfield 74, 3, 12, 37), (.aload_n 0, 1, 0, 0), (.getfield 304, 3, 12, 39)] 130 [some (.ref (79)), some (.int (x1)), some (.int (v54))] [.int (u58.1 79 39), .ref (99), .ref (97), .ref (79)] u58 [q_id 116 12 79, q_id 116 12 79, q_id 116 12 79] (by decide +kernel) (by refine qt_aload_n (r := 79) rfl ?_; refine qt_aload_n (r := 79) rfl ?_; refine qt_getR (r := 97) rfl rfl ?_; refine qt_aload_n (r := 79) rfl ?_; refine qt_getR (r := 99) rfl rfl ?_; refine qt_aload_n (r := 79) rfl ?_; refine qt_getI rfl ?_; exact qt_z rfl rfl rfl rfl rfl) ⟨(q_id_of rfl), (q_id_of rfl), (q_id_of rfl)⟩ ?_
              refine s_callV (a := 0) (a' := 0) (As := [.ref (97), .ref (99), .int (u58.1 79 39)]) (id := 79) (st := []) kX12_copies l_12_208 (by decide +kernel) (q_id_of rfl) rfl (Nat.le_of_ble_eq_true rfl) (s_mono h (s_V_of (fun u60 h => ?_)) (fun _ _ h9 => h9))
              show s_Ex (d + 1) 0 mX12_law 133 [some (.ref (79)), some (.int (x1)), some (.int (v54))] [] u60 Q X
              refine s_blk [(.iload_n 2, 1, 0, 0)] 134 [some (.ref (79)), some (.int (x1)), some (.int (v54))] [.int (v54)] u60 [] (by decide +kernel) (by refine qt_iload_n (x := v54) rfl ?_; exact qt_z rfl rfl rfl rfl rfl) trivial ?_
              exact s_retI .int (by decide +kernel) rfl rfl h
            · replace h := h.2 hc
              refine s_blk [(.iload_n 2, 1, 0, 0)] 92 [some (.ref (79)), some (.int (x1)), some (.int (v54))] [.int (v54)] u55 [] (by decide +kernel) (by refine qt_iload_n (x := v54) rfl ?_; exact qt_z rfl rfl rfl rfl rfl) trivial ?_
              exact s_retI .int (by decide +kernel) rfl rfl h
          · replace h := h.2 hc
            refine s_blk [(.aload_n 0, 1, 0, 0), (.iconst 1, 1, 0, 0), (.aload_n 0, 1, 0, 0), (.getfield 141, 3, 12, 4)] 74 [some (.ref (79)), some (.int (x1)), none] [.int (u53.1 79 4), .int (1), .ref (79)] u53 [q_id 116 12 79] (by decide +kernel) (by refine qt_aload_n (r := 79) rfl ?_; refine qt_iconst qc_1 ?_; refine qt_aload_n (r := 79) rfl ?_; refine qt_getI rfl ?_; exact qt_z rfl rfl rfl rfl rfl) (q_id_of rfl) ?_
            refine s_callV (a := 0) (a' := 0) (As := [.int (1), .int (u53.1 79 4)]) (id := 79) (st := []) kX12_wrong l_12_171 (by decide +kernel) (q_id_of rfl) rfl (Nat.le_of_ble_eq_true rfl) (s_mono h (s_V_of (fun u62 h => ?_)) (fun _ _ h9 => h9))
            show s_Ex (d + 1) 0 mX12_law 77 [some (.ref (79)), some (.int (x1)), none] [] u62 Q X
            refine s_blk [(.aload_n 0, 1, 0, 0), (.iconst 1, 1, 0, 0)] 79 [some (.ref (79)), some (.int (x1)), none] [.int (1), .ref (79)] u62 [] (by decide +kernel) (by refine qt_aload_n (r := 79) rfl ?_; refine qt_iconst qc_1 ?_; exact qt_z rfl rfl rfl rfl rfl) trivial ?_
            refine s_callV (a := 0) (a' := 0) (As := [.int (1)]) (id := 79) (st := []) kX12_result l_12_300 (by decide +kernel) (q_id_of rfl) rfl (Nat.le_of_ble_eq_true rfl) (s_mono h (s_I_of (fun v63 u64 h => ?_)) (fun _ _ h9 => h9))
            show s_Ex (d + 1) 0 mX12_law 82 [some (.ref (79)), some (.int (x1)), none] [.int (v63)] u64 Q X
            refine s_blk [(.istore_n 2, 1, 0, 0), (.aload_n 0, 1, 0, 0), (.getfield 135, 3, 12, 5), (.iconst (-1), 1, 0, 0)] 88 [some (.ref (79)), some (.int (x1)), some (.int (v63))] [.int (-1), .int (u64.1 79 5)] u64 [q_id 116 12 79] (by decide +kernel) (by refine qt_istore_n (L' := [some (.ref (79)), some (.int (x1)), some (.int (v63))]) rfl ?_; refine qt_aload_n (r := 79) rfl ?_; refine qt_getI rfl ?_; refine qt_iconst qc_m1 ?_; exact qt_z rfl rfl rfl rfl rfl) (q_id_of rfl) ?_
            refine s_icmp (cd := .eq) (off := 5) 93 (by decide +kernel) (by decide) (fun hc => ?_) (fun hc => ?_)
            · replace h := h.1 hc
              replace h := h _ rfl
              refine s_blk [(.aload_n 0, 1, 0, 0), (.aload_n 0, 1, 0, 0), (.getfield 304, 3, 12, 39), (.putfield 212, 3, 12, 40), (.aload_n 0, 1, 0, 0), (.aload_n 0, 1, 0, 0), (.getfield 65, 3, 12, 34), (.aload_n 0, 1, 0, 0), (.getfield 71, 3, 12, 36), (.aload_n 0, 1, 0, 0), (.getfield 304, 3, 12, 39)] 114 [some (.ref (79)), some (.int (x1)), some (.int (v63))] [.int ((q_wI u64 79 40 (u64.1 79 39)).1 79 39), .ref (98), .ref (96), .ref (79)] (q_wI u64 79 40 (u64.1 79 39)) [q_id 116 12 79, q_id 116 12 79, q_id 116 12 79, q_id 116 12 79, q_id 116 12 79] (by decide +kernel) (by refine qt_aload_n (r := 79) rfl ?_; refine qt_aload_n (r := 79) rfl ?_; refine qt_getI rfl ?_; refine qt_putI rfl ?_; refine qt_aload_n (r := 79) rfl ?_; refine qt_aload_n (r := 79) rfl ?_; refine qt_getR (r := 96) rfl rfl ?_; refine qt_aload_n (r := 79) rfl ?_; refine qt_getR (r := 98) rfl rfl ?_; refine qt_aload_n (r := 79) rfl ?_; refine qt_getI rfl ?_; exact qt_z rfl rfl rfl rfl rfl) ⟨(q_id_of rfl), (q_id_of rfl), (q_id_of rfl), (q_id_of rfl), (q_id_of rfl)⟩ ?_
              refine s_callV (a := 0) (a' := 0) (As := [.ref (96), .ref (98), .int ((q_wI u64 79 40 (u64.1 79 39)).1 79 39)]) (id := 79) (st := []) kX12_copies l_12_208 (by decide +kernel) (q_id_of rfl) rfl (Nat.le_of_ble_eq_true rfl) (s_mono h (s_V_of (fun u67 h => ?_)) (fun _ _ h9 => h9))
              show s_Ex (d + 1) 0 mX12_law 117 [some (.ref (79)), some (.int (x1)), some (.int (v63))] [] u67 Q X
              refine s_blk [(.aload_n 0, 1, 0, 0), (.aload_n 0, 1, 0, 0), (.getfield 68, 3, 12, 35), (.aload_n 0, 1, 0, 0), (.getfield 74, 3, 12, 37), (.aload_n 0, 1, 0, 0), (.getfield 304, 3, 12, 39)] 130 [some (.ref (79)), some (.int (x1)), some (.int (v63))] [.int (u67.1 79 39), .ref (99), .ref (97), .ref (79)] u67 [q_id 116 12 79, q_id 116 12 79, q_id 116 12 79] (by decide +kernel) (by refine qt_aload_n (r := 79) rfl ?_; refine qt_aload_n (r := 79) rfl ?_; refine qt_getR (r := 97) rfl rfl ?_; refine qt_aload_n (r := 79) rfl ?_; refine qt_getR (r := 99) rfl rfl ?_; refine qt_aload_n (r := 79) rfl ?_; refine qt_getI rfl ?_; exact qt_z rfl rfl rfl rfl rfl) ⟨(q_id_of rfl), (q_id_of rfl), (q_id_of rfl)⟩ ?_
              refine s_callV (a := 0) (a' := 0) (As := [.ref (97), .ref (99), .int (u67.1 79 39)]) (id := 79) (st := []) kX12_copies l_12_208 (by decide +kernel) (q_id_of rfl) rfl (Nat.le_of_ble_eq_true rfl) (s_mono h (s_V_of (fun u69 h => ?_)) (fun _ _ h9 => h9))
              show s_Ex (d + 1) 0 mX12_law 133 [some (.ref (79)), some (.int (x1)), some (.int (v63))] [] u69 Q X
              refine s_blk [(.iload_n 2, 1, 0, 0)] 134 [some (.ref (79)), some (.int (x1)), some (.int (v63))] [.int (v63)] u69 [] (by decide +kernel) (by refine qt_iload_n (x := v63) rfl ?_; exact qt_z rfl rfl rfl rfl rfl) trivial ?_
              exact s_retI .int (by decide +kernel) rfl rfl h
            · replace h := h.2 hc
              refine s_blk [(.iload_n 2, 1, 0, 0)] 92 [some (.ref (79)), some (.int (x1)), some (.int (v63))] [.int (v63)] u64 [] (by decide +kernel) (by refine qt_iload_n (x := v63) rfl ?_; exact qt_z rfl rfl rfl rfl rfl) trivial ?_
              exact s_retI .int (by decide +kernel) rfl rfl h
      · replace h := h.2 hc
        refine s_blk [(.iconst 0, 1, 0, 0)] 39 [some (.ref (79)), some (.int (x1)), none] [.int (0)] u37 [] (by decide +kernel) (by refine qt_iconst qc_0 ?_; exact qt_z rfl rfl rfl rfl rfl) trivial ?_
        exact s_retI .int (by decide +kernel) rfl rfl h
    · replace h := h.2 hc
      refine s_blk [(.iload_n 1, 1, 0, 0), (.sipush 150, 3, 0, 0)] 22 [some (.ref (79)), some (.int (x1)), none] [.int (150), .int (x1), .ref (79)] (q_wI w 79 0 0) [] (by decide +kernel) (by refine qt_iload_n (x := x1) rfl ?_; refine qt_sipush qs_150 ?_; exact qt_z rfl rfl rfl rfl rfl) trivial ?_
      refine s_icmp (cd := .gt) (off := 7) 29 (by decide +kernel) (by decide) (fun hc => ?_) (fun hc => ?_)
      · replace h := h.1 hc
        refine s_blk [(.iconst 0, 1, 0, 0), (.iconst 1, 1, 0, 0), (.iconst 1, 1, 0, 0)] 32 [some (.ref (79)), some (.int (x1)), none] [.int (1), .int (1), .int (0), .ref (79)] (q_wI w 79 0 0) [] (by decide +kernel) (by refine qt_iconst qc_0 ?_; refine qt_iconst qc_1 ?_; refine qt_iconst qc_1 ?_; exact qt_z rfl rfl rfl rfl rfl) trivial ?_
        refine s_callV (a := 0) (a' := 0) (As := [.int (0), .int (1), .int (1)]) (id := 79) (st := []) kX12_may l_12_270 (by decide +kernel) (q_id_of rfl) rfl (Nat.le_of_ble_eq_true rfl) (s_mono h (s_I_of (fun v70 u71 h => ?_)) (fun _ _ h9 => h9))
        show s_Ex (d + 1) 0 mX12_law 35 [some (.ref (79)), some (.int (x1)), none] [.int (v70)] u71 Q X
        refine s_if (cd := .ne) (off := 5) 40 (by decide +kernel) (by decide) (fun hc => ?_) (fun hc => ?_)
        · replace h := h.1 hc
          refine s_blk [(.aload_n 0, 1, 0, 0), (.iload_n 1, 1, 0, 0)] 42 [some (.ref (79)), some (.int (x1)), none] [.int (x1), .ref (79)] u71 [] (by decide +kernel) (by refine qt_aload_n (r := 79) rfl ?_; refine qt_iload_n (x := x1) rfl ?_; exact qt_z rfl rfl rfl rfl rfl) trivial ?_
          refine s_callV (a := 0) (a' := 0) (As := [.int (x1)]) (id := 79) (st := []) kX12_begins l_12_274 (by decide +kernel) (q_id_of rfl) rfl (Nat.le_of_ble_eq_true rfl) (s_mono h (s_V_of (fun u73 h => ?_)) (fun _ _ h9 => h9))
          show s_Ex (d + 1) 0 mX12_law 45 [some (.ref (79)), some (.int (x1)), none] [] u73 Q X
          replace h := h _ rfl
          refine s_blk [(.aload_n 0, 1, 0, 0), (.iconst 0, 1, 0, 0), (.putfield 304, 3, 12, 39), (.aload_n 0, 1, 0, 0)] 51 [some (.ref (79)), some (.int (x1)), none] [.ref (79)] (q_wI u73 79 39 0) [q_id 116 12 79] (by decide +kernel) (by refine qt_aload_n (r := 79) rfl ?_; refine qt_iconst qc_0 ?_; refine qt_putI rfl ?_; refine qt_aload_n (r := 79) rfl ?_; exact qt_z rfl rfl rfl rfl rfl) (q_id_of rfl) ?_
          refine s_callV (a := 0) (a' := 0) (As := []) (id := 79) (st := []) kX12_readSum l_12_319 (by decide +kernel) (q_id_of rfl) rfl (Nat.le_of_ble_eq_true rfl) (s_mono h (s_V_of (fun u76 h => ?_)) (fun _ _ h9 => h9))
          show s_Ex (d + 1) 0 mX12_law 54 [some (.ref (79)), some (.int (x1)), none] [] u76 Q X
          refine s_blk [(.aload_n 0, 1, 0, 0)] 55 [some (.ref (79)), some (.int (x1)), none] [.ref (79)] u76 [] (by decide +kernel) (by refine qt_aload_n (r := 79) rfl ?_; exact qt_z rfl rfl rfl rfl rfl) trivial ?_
          refine s_callV (a := 0) (a' := 0) (As := []) (id := 79) (st := []) kX12_fine l_12_164 (by decide +kernel) (q_id_of rfl) rfl (Nat.le_of_ble_eq_true rfl) (s_mono h (s_I_of (fun v77 u78 h => ?_)) (fun _ _ h9 => h9))
          show s_Ex (d + 1) 0 mX12_law 58 [some (.ref (79)), some (.int (x1)), none] [.int (v77)] u78 Q X
          refine s_if (cd := .eq) (off := 19) 77 (by decide +kernel) (by decide) (fun hc => ?_) (fun hc => ?_)
          · replace h := h.1 hc
            refine s_blk [(.aload_n 0, 1, 0, 0), (.iconst 1, 1, 0, 0)] 79 [some (.ref (79)), some (.int (x1)), none] [.int (1), .ref (79)] u78 [] (by decide +kernel) (by refine qt_aload_n (r := 79) rfl ?_; refine qt_iconst qc_1 ?_; exact qt_z rfl rfl rfl rfl rfl) trivial ?_
            refine s_callV (a := 0) (a' := 0) (As := [.int (1)]) (id := 79) (st := []) kX12_result l_12_300 (by decide +kernel) (q_id_of rfl) rfl (Nat.le_of_ble_eq_true rfl) (s_mono h (s_I_of (fun v79 u80 h => ?_)) (fun _ _ h9 => h9))
            show s_Ex (d + 1) 0 mX12_law 82 [some (.ref (79)), some (.int (x1)), none] [.int (v79)] u80 Q X
            refine s_blk [(.istore_n 2, 1, 0, 0), (.aload_n 0, 1, 0, 0), (.getfield 135, 3, 12, 5), (.iconst (-1), 1, 0, 0)] 88 [some (.ref (79)), some (.int (x1)), some (.int (v79))] [.int (-1), .int (u80.1 79 5)] u80 [q_id 116 12 79] (by decide +kernel) (by refine qt_istore_n (L' := [some (.ref (79)), some (.int (x1)), some (.int (v79))]) rfl ?_; refine qt_aload_n (r := 79) rfl ?_; refine qt_getI rfl ?_; refine qt_iconst qc_m1 ?_; exact qt_z rfl rfl rfl rfl rfl) (q_id_of rfl) ?_
            refine s_icmp (cd := .eq) (off := 5) 93 (by decide +kernel) (by decide) (fun hc => ?_) (fun hc => ?_)
            · replace h := h.1 hc
              replace h := h _ rfl
              refine s_blk [(.aload_n 0, 1, 0, 0), (.aload_n 0, 1, 0, 0), (.getfield 304, 3, 12, 39), (.putfield 212, 3, 12, 40), (.aload_n 0, 1, 0, 0), (.aload_n 0, 1, 0, 0), (.getfield 65, 3, 12, 34), (.aload_n 0, 1, 0, 0), (.getfield 71, 3, 12, 36), (.aload_n 0, 1, 0, 0), (.getfield 304, 3, 12, 39)] 114 [some (.ref (79)), some (.int (x1)), some (.int (v79))] [.int ((q_wI u80 79 40 (u80.1 79 39)).1 79 39), .ref (98), .ref (96), .ref (79)] (q_wI u80 79 40 (u80.1 79 39)) [q_id 116 12 79, q_id 116 12 79, q_id 116 12 79, q_id 116 12 79, q_id 116 12 79] (by decide +kernel) (by refine qt_aload_n (r := 79) rfl ?_; refine qt_aload_n (r := 79) rfl ?_; refine qt_getI rfl ?_; refine qt_putI rfl ?_; refine qt_aload_n (r := 79) rfl ?_; refine qt_aload_n (r := 79) rfl ?_; refine qt_getR (r := 96) rfl rfl ?_; refine qt_aload_n (r := 79) rfl ?_; refine qt_getR (r := 98) rfl rfl ?_; refine qt_aload_n (r := 79) rfl ?_; refine qt_getI rfl ?_; exact qt_z rfl rfl rfl rfl rfl) ⟨(q_id_of rfl), (q_id_of rfl), (q_id_of rfl), (q_id_of rfl), (q_id_of rfl)⟩ ?_
              refine s_callV (a := 0) (a' := 0) (As := [.ref (96), .ref (98), .int ((q_wI u80 79 40 (u80.1 79 39)).1 79 39)]) (id := 79) (st := []) kX12_copies l_12_208 (by decide +kernel) (q_id_of rfl) rfl (Nat.le_of_ble_eq_true rfl) (s_mono h (s_V_of (fun u83 h => ?_)) (fun _ _ h9 => h9))
              show s_Ex (d + 1) 0 mX12_law 117 [some (.ref (79)), some (.int (x1)), some (.int (v79))] [] u83 Q X
              refine s_blk [(.aload_n 0, 1, 0, 0), (.aload_n 0, 1, 0, 0), (.getfield 68, 3, 12, 35), (.aload_n 0, 1, 0, 0), (.getfield 74, 3, 12, 37), (.aload_n 0, 1, 0, 0), (.getfield 304, 3, 12, 39)] 130 [some (.ref (79)), some (.int (x1)), some (.int (v79))] [.int (u83.1 79 39), .ref (99), .ref (97), .ref (79)] u83 [q_id 116 12 79, q_id 116 12 79, q_id 116 12 79] (by decide +kernel) (by refine qt_aload_n (r := 79) rfl ?_; refine qt_aload_n (r := 79) rfl ?_; refine qt_getR (r := 97) rfl rfl ?_; refine qt_aload_n (r := 79) rfl ?_; refine qt_getR (r := 99) rfl rfl ?_; refine qt_aload_n (r := 79) rfl ?_; refine qt_getI rfl ?_; exact qt_z rfl rfl rfl rfl rfl) ⟨(q_id_of rfl), (q_id_of rfl), (q_id_of rfl)⟩ ?_
              refine s_callV (a := 0) (a' := 0) (As := [.ref (97), .ref (99), .int (u83.1 79 39)]) (id := 79) (st := []) kX12_copies l_12_208 (by decide +kernel) (q_id_of rfl) rfl (Nat.le_of_ble_eq_true rfl) (s_mono h (s_V_of (fun u85 h => ?_)) (fun _ _ h9 => h9))
              show s_Ex (d + 1) 0 mX12_law 133 [some (.ref (79)), some (.int (x1)), some (.int (v79))] [] u85 Q X
              refine s_blk [(.iload_n 2, 1, 0, 0)] 134 [some (.ref (79)), some (.int (x1)), some (.int (v79))] [.int (v79)] u85 [] (by decide +kernel) (by refine qt_iload_n (x := v79) rfl ?_; exact qt_z rfl rfl rfl rfl rfl) trivial ?_
              exact s_retI .int (by decide +kernel) rfl rfl h
            · replace h := h.2 hc
              refine s_blk [(.iload_n 2, 1, 0, 0)] 92 [some (.ref (79)), some (.int (x1)), some (.int (v79))] [.int (v79)] u80 [] (by decide +kernel) (by refine qt_iload_n (x := v79) rfl ?_; exact qt_z rfl rfl rfl rfl rfl) trivial ?_
              exact s_retI .int (by decide +kernel) rfl rfl h
          · replace h := h.2 hc
            refine s_blk [(.aload_n 0, 1, 0, 0)] 62 [some (.ref (79)), some (.int (x1)), none] [.ref (79)] u78 [] (by decide +kernel) (by refine qt_aload_n (r := 79) rfl ?_; exact qt_z rfl rfl rfl rfl rfl) trivial ?_
            refine s_callV (a := 0) (a' := 0) (As := []) (id := 79) (st := []) kX12_isMore l_12_278 (by decide +kernel) (q_id_of rfl) rfl (Nat.le_of_ble_eq_true rfl) (s_mono h (s_I_of (fun v86 u87 h => ?_)) (fun _ _ h9 => h9))
            show s_Ex (d + 1) 0 mX12_law 65 [some (.ref (79)), some (.int (x1)), none] [.int (v86)] u87 Q X
            refine s_if (cd := .eq) (off := 12) 77 (by decide +kernel) (by decide) (fun hc => ?_) (fun hc => ?_)
            · replace h := h.1 hc
              refine s_blk [(.aload_n 0, 1, 0, 0), (.iconst 1, 1, 0, 0)] 79 [some (.ref (79)), some (.int (x1)), none] [.int (1), .ref (79)] u87 [] (by decide +kernel) (by refine qt_aload_n (r := 79) rfl ?_; refine qt_iconst qc_1 ?_; exact qt_z rfl rfl rfl rfl rfl) trivial ?_
              refine s_callV (a := 0) (a' := 0) (As := [.int (1)]) (id := 79) (st := []) kX12_result l_12_300 (by decide +kernel) (q_id_of rfl) rfl (Nat.le_of_ble_eq_true rfl) (s_mono h (s_I_of (fun v88 u89 h => ?_)) (fun _ _ h9 => h9))
              show s_Ex (d + 1) 0 mX12_law 82 [some (.ref (79)), some (.int (x1)), none] [.int (v88)] u89 Q X
              refine s_blk [(.istore_n 2, 1, 0, 0), (.aload_n 0, 1, 0, 0), (.getfield 135, 3, 12, 5), (.iconst (-1), 1, 0, 0)] 88 [some (.ref (79)), some (.int (x1)), some (.int (v88))] [.int (-1), .int (u89.1 79 5)] u89 [q_id 116 12 79] (by decide +kernel) (by refine qt_istore_n (L' := [some (.ref (79)), some (.int (x1)), some (.int (v88))]) rfl ?_; refine qt_aload_n (r := 79) rfl ?_; refine qt_getI rfl ?_; refine qt_iconst qc_m1 ?_; exact qt_z rfl rfl rfl rfl rfl) (q_id_of rfl) ?_
              refine s_icmp (cd := .eq) (off := 5) 93 (by decide +kernel) (by decide) (fun hc => ?_) (fun hc => ?_)
              · replace h := h.1 hc
                replace h := h _ rfl
                refine s_blk [(.aload_n 0, 1, 0, 0), (.aload_n 0, 1, 0, 0), (.getfield 304, 3, 12, 39), (.putfield 212, 3, 12, 40), (.aload_n 0, 1, 0, 0), (.aload_n 0, 1, 0, 0), (.getfield 65, 3, 12, 34), (.aload_n 0, 1, 0, 0), (.getfield 71, 3, 12, 36), (.aload_n 0, 1, 0, 0), (.getfield 304, 3, 12, 39)] 114 [some (.ref (79)), some (.int (x1)), some (.int (v88))] [.int ((q_wI u89 79 40 (u89.1 79 39)).1 79 39), .ref (98), .ref (96), .ref (79)] (q_wI u89 79 40 (u89.1 79 39)) [q_id 116 12 79, q_id 116 12 79, q_id 116 12 79, q_id 116 12 79, q_id 116 12 79] (by decide +kernel) (by refine qt_aload_n (r := 79) rfl ?_; refine qt_aload_n (r := 79) rfl ?_; refine qt_getI rfl ?_; refine qt_putI rfl ?_; refine qt_aload_n (r := 79) rfl ?_; refine qt_aload_n (r := 79) rfl ?_; refine qt_getR (r := 96) rfl rfl ?_; refine qt_aload_n (r := 79) rfl ?_; refine qt_getR (r := 98) rfl rfl ?_; refine qt_aload_n (r := 79) rfl ?_; refine qt_getI rfl ?_; exact qt_z rfl rfl rfl rfl rfl) ⟨(q_id_of rfl), (q_id_of rfl), (q_id_of rfl), (q_id_of rfl), (q_id_of rfl)⟩ ?_
                refine s_callV (a := 0) (a' := 0) (As := [.ref (96), .ref (98), .int ((q_wI u89 79 40 (u89.1 79 39)).1 79 39)]) (id := 79) (st := []) kX12_copies l_12_208 (by decide +kernel) (q_id_of rfl) rfl (Nat.le_of_ble_eq_true rfl) (s_mono h (s_V_of (fun u92 h => ?_)) (fun _ _ h9 => h9))
                show s_Ex (d + 1) 0 mX12_law 117 [some (.ref (79)), some (.int (x1)), some (.int (v88))] [] u92 Q X
                refine s_blk [(.aload_n 0, 1, 0, 0), (.aload_n 0, 1, 0, 0), (.getfield 68, 3, 12, 35), (.aload_n 0, 1, 0, 0), (.getfield 74, 3, 12, 37), (.aload_n 0, 1, 0, 0), (.getfield 304, 3, 12, 39)] 130 [some (.ref (79)), some (.int (x1)), some (.int (v88))] [.int (u92.1 79 39), .ref (99), .ref (97), .ref (79)] u92 [q_id 116 12 79, q_id 116 12 79, q_id 116 12 79] (by decide +kernel) (by refine qt_aload_n (r := 79) rfl ?_; refine qt_aload_n (r := 79) rfl ?_; refine qt_getR (r := 97) rfl rfl ?_; refine qt_aload_n (r := 79) rfl ?_; refine qt_getR (r := 99) rfl rfl ?_; refine qt_aload_n (r := 79) rfl ?_; refine qt_getI rfl ?_; exact qt_z rfl rfl rfl rfl rfl) ⟨(q_id_of rfl), (q_id_of rfl), (q_id_of rfl)⟩ ?_
                refine s_callV (a := 0) (a' := 0) (As := [.ref (97), .ref (99), .int (u92.1 79 39)]) (id := 79) (st := []) kX12_copies l_12_208 (by decide +kernel) (q_id_of rfl) rfl (Nat.le_of_ble_eq_true rfl) (s_mono h (s_V_of (fun u94 h => ?_)) (fun _ _ h9 => h9))
                show s_Ex (d + 1) 0 mX12_law 133 [some (.ref (79)), some (.int (x1)), some (.int (v88))] [] u94 Q X
                refine s_blk [(.iload_n 2, 1, 0, 0)] 134 [some (.ref (79)), some (.int (x1)), some (.int (v88))] [.int (v88)] u94 [] (by decide +kernel) (by refine qt_iload_n (x := v88) rfl ?_; exact qt_z rfl rfl rfl rfl rfl) trivial ?_
                exact s_retI .int (by decide +kernel) rfl rfl h
              · replace h := h.2 hc
                refine s_blk [(.iload_n 2, 1, 0, 0)] 92 [some (.ref (79)), some (.int (x1)), some (.int (v88))] [.int (v88)] u89 [] (by decide +kernel) (by refine qt_iload_n (x := v88) rfl ?_; exact qt_z rfl rfl rfl rfl rfl) trivial ?_
                exact s_retI .int (by decide +kernel) rfl rfl h
            · replace h := h.2 hc
              refine s_blk [(.aload_n 0, 1, 0, 0), (.iconst 1, 1, 0, 0), (.aload_n 0, 1, 0, 0), (.getfield 141, 3, 12, 4)] 74 [some (.ref (79)), some (.int (x1)), none] [.int (u87.1 79 4), .int (1), .ref (79)] u87 [q_id 116 12 79] (by decide +kernel) (by refine qt_aload_n (r := 79) rfl ?_; refine qt_iconst qc_1 ?_; refine qt_aload_n (r := 79) rfl ?_; refine qt_getI rfl ?_; exact qt_z rfl rfl rfl rfl rfl) (q_id_of rfl) ?_
              refine s_callV (a := 0) (a' := 0) (As := [.int (1), .int (u87.1 79 4)]) (id := 79) (st := []) kX12_wrong l_12_171 (by decide +kernel) (q_id_of rfl) rfl (Nat.le_of_ble_eq_true rfl) (s_mono h (s_V_of (fun u96 h => ?_)) (fun _ _ h9 => h9))
              show s_Ex (d + 1) 0 mX12_law 77 [some (.ref (79)), some (.int (x1)), none] [] u96 Q X
              refine s_blk [(.aload_n 0, 1, 0, 0), (.iconst 1, 1, 0, 0)] 79 [some (.ref (79)), some (.int (x1)), none] [.int (1), .ref (79)] u96 [] (by decide +kernel) (by refine qt_aload_n (r := 79) rfl ?_; refine qt_iconst qc_1 ?_; exact qt_z rfl rfl rfl rfl rfl) trivial ?_
              refine s_callV (a := 0) (a' := 0) (As := [.int (1)]) (id := 79) (st := []) kX12_result l_12_300 (by decide +kernel) (q_id_of rfl) rfl (Nat.le_of_ble_eq_true rfl) (s_mono h (s_I_of (fun v97 u98 h => ?_)) (fun _ _ h9 => h9))
              show s_Ex (d + 1) 0 mX12_law 82 [some (.ref (79)), some (.int (x1)), none] [.int (v97)] u98 Q X
              refine s_blk [(.istore_n 2, 1, 0, 0), (.aload_n 0, 1, 0, 0), (.getfield 135, 3, 12, 5), (.iconst (-1), 1, 0, 0)] 88 [some (.ref (79)), some (.int (x1)), some (.int (v97))] [.int (-1), .int (u98.1 79 5)] u98 [q_id 116 12 79] (by decide +kernel) (by refine qt_istore_n (L' := [some (.ref (79)), some (.int (x1)), some (.int (v97))]) rfl ?_; refine qt_aload_n (r := 79) rfl ?_; refine qt_getI rfl ?_; refine qt_iconst qc_m1 ?_; exact qt_z rfl rfl rfl rfl rfl) (q_id_of rfl) ?_
              refine s_icmp (cd := .eq) (off := 5) 93 (by decide +kernel) (by decide) (fun hc => ?_) (fun hc => ?_)
              · replace h := h.1 hc
                replace h := h _ rfl
                refine s_blk [(.aload_n 0, 1, 0, 0), (.aload_n 0, 1, 0, 0), (.getfield 304, 3, 12, 39), (.putfield 212, 3, 12, 40), (.aload_n 0, 1, 0, 0), (.aload_n 0, 1, 0, 0), (.getfield 65, 3, 12, 34), (.aload_n 0, 1, 0, 0), (.getfield 71, 3, 12, 36), (.aload_n 0, 1, 0, 0), (.getfield 304, 3, 12, 39)] 114 [some (.ref (79)), some (.int (x1)), some (.int (v97))] [.int ((q_wI u98 79 40 (u98.1 79 39)).1 79 39), .ref (98), .ref (96), .ref (79)] (q_wI u98 79 40 (u98.1 79 39)) [q_id 116 12 79, q_id 116 12 79, q_id 116 12 79, q_id 116 12 79, q_id 116 12 79] (by decide +kernel) (by refine qt_aload_n (r := 79) rfl ?_; refine qt_aload_n (r := 79) rfl ?_; refine qt_getI rfl ?_; refine qt_putI rfl ?_; refine qt_aload_n (r := 79) rfl ?_; refine qt_aload_n (r := 79) rfl ?_; refine qt_getR (r := 96) rfl rfl ?_; refine qt_aload_n (r := 79) rfl ?_; refine qt_getR (r := 98) rfl rfl ?_; refine qt_aload_n (r := 79) rfl ?_; refine qt_getI rfl ?_; exact qt_z rfl rfl rfl rfl rfl) ⟨(q_id_of rfl), (q_id_of rfl), (q_id_of rfl), (q_id_of rfl), (q_id_of rfl)⟩ ?_
                refine s_callV (a := 0) (a' := 0) (As := [.ref (96), .ref (98), .int ((q_wI u98 79 40 (u98.1 79 39)).1 79 39)]) (id := 79) (st := []) kX12_copies l_12_208 (by decide +kernel) (q_id_of rfl) rfl (Nat.le_of_ble_eq_true rfl) (s_mono h (s_V_of (fun u101 h => ?_)) (fun _ _ h9 => h9))
                show s_Ex (d + 1) 0 mX12_law 117 [some (.ref (79)), some (.int (x1)), some (.int (v97))] [] u101 Q X
                refine s_blk [(.aload_n 0, 1, 0, 0), (.aload_n 0, 1, 0, 0), (.getfield 68, 3, 12, 35), (.aload_n 0, 1, 0, 0), (.getfield 74, 3, 12, 37), (.aload_n 0, 1, 0, 0), (.getfield 304, 3, 12, 39)] 130 [some (.ref (79)), some (.int (x1)), some (.int (v97))] [.int (u101.1 79 39), .ref (99), .ref (97), .ref (79)] u101 [q_id 116 12 79, q_id 116 12 79, q_id 116 12 79] (by decide +kernel) (by refine qt_aload_n (r := 79) rfl ?_; refine qt_aload_n (r := 79) rfl ?_; refine qt_getR (r := 97) rfl rfl ?_; refine qt_aload_n (r := 79) rfl ?_; refine qt_getR (r := 99) rfl rfl ?_; refine qt_aload_n (r := 79) rfl ?_; refine qt_getI rfl ?_; exact qt_z rfl rfl rfl rfl rfl) ⟨(q_id_of rfl), (q_id_of rfl), (q_id_of rfl)⟩ ?_
                refine s_callV (a := 0) (a' := 0) (As := [.ref (97), .ref (99), .int (u101.1 79 39)]) (id := 79) (st := []) kX12_copies l_12_208 (by decide +kernel) (q_id_of rfl) rfl (Nat.le_of_ble_eq_true rfl) (s_mono h (s_V_of (fun u103 h => ?_)) (fun _ _ h9 => h9))
                show s_Ex (d + 1) 0 mX12_law 133 [some (.ref (79)), some (.int (x1)), some (.int (v97))] [] u103 Q X
                refine s_blk [(.iload_n 2, 1, 0, 0)] 134 [some (.ref (79)), some (.int (x1)), some (.int (v97))] [.int (v97)] u103 [] (by decide +kernel) (by refine qt_iload_n (x := v97) rfl ?_; exact qt_z rfl rfl rfl rfl rfl) trivial ?_
                exact s_retI .int (by decide +kernel) rfl rfl h
              · replace h := h.2 hc
                refine s_blk [(.iload_n 2, 1, 0, 0)] 92 [some (.ref (79)), some (.int (x1)), some (.int (v97))] [.int (v97)] u98 [] (by decide +kernel) (by refine qt_iload_n (x := v97) rfl ?_; exact qt_z rfl rfl rfl rfl rfl) trivial ?_
                exact s_retI .int (by decide +kernel) rfl rfl h
        · replace h := h.2 hc
          refine s_blk [(.iconst 0, 1, 0, 0)] 39 [some (.ref (79)), some (.int (x1)), none] [.int (0)] u71 [] (by decide +kernel) (by refine qt_iconst qc_0 ?_; exact qt_z rfl rfl rfl rfl rfl) trivial ?_
          exact s_retI .int (by decide +kernel) rfl rfl h
      · replace h := h.2 hc
        refine s_blk [(.iconst 1, 1, 0, 0), (.goto 4, 3, 30, 0), (.iconst 1, 1, 0, 0), (.iconst 1, 1, 0, 0)] 32 [some (.ref (79)), some (.int (x1)), none] [.int (1), .int (1), .int (1), .ref (79)] (q_wI w 79 0 0) [] (by decide +kernel) (by refine qt_iconst qc_1 ?_; refine qt_goto ?_; refine qt_iconst qc_1 ?_; refine qt_iconst qc_1 ?_; exact qt_z rfl rfl rfl rfl rfl) trivial ?_
        refine s_callV (a := 0) (a' := 0) (As := [.int (1), .int (1), .int (1)]) (id := 79) (st := []) kX12_may l_12_270 (by decide +kernel) (q_id_of rfl) rfl (Nat.le_of_ble_eq_true rfl) (s_mono h (s_I_of (fun v104 u105 h => ?_)) (fun _ _ h9 => h9))
        show s_Ex (d + 1) 0 mX12_law 35 [some (.ref (79)), some (.int (x1)), none] [.int (v104)] u105 Q X
        refine s_if (cd := .ne) (off := 5) 40 (by decide +kernel) (by decide) (fun hc => ?_) (fun hc => ?_)
        · replace h := h.1 hc
          refine s_blk [(.aload_n 0, 1, 0, 0), (.iload_n 1, 1, 0, 0)] 42 [some (.ref (79)), some (.int (x1)), none] [.int (x1), .ref (79)] u105 [] (by decide +kernel) (by refine qt_aload_n (r := 79) rfl ?_; refine qt_iload_n (x := x1) rfl ?_; exact qt_z rfl rfl rfl rfl rfl) trivial ?_
          refine s_callV (a := 0) (a' := 0) (As := [.int (x1)]) (id := 79) (st := []) kX12_begins l_12_274 (by decide +kernel) (q_id_of rfl) rfl (Nat.le_of_ble_eq_true rfl) (s_mono h (s_V_of (fun u107 h => ?_)) (fun _ _ h9 => h9))
          show s_Ex (d + 1) 0 mX12_law 45 [some (.ref (79)), some (.int (x1)), none] [] u107 Q X
          replace h := h _ rfl
          refine s_blk [(.aload_n 0, 1, 0, 0), (.iconst 0, 1, 0, 0), (.putfield 304, 3, 12, 39), (.aload_n 0, 1, 0, 0)] 51 [some (.ref (79)), some (.int (x1)), none] [.ref (79)] (q_wI u107 79 39 0) [q_id 116 12 79] (by decide +kernel) (by refine qt_aload_n (r := 79) rfl ?_; refine qt_iconst qc_0 ?_; refine qt_putI rfl ?_; refine qt_aload_n (r := 79) rfl ?_; exact qt_z rfl rfl rfl rfl rfl) (q_id_of rfl) ?_
          refine s_callV (a := 0) (a' := 0) (As := []) (id := 79) (st := []) kX12_readSum l_12_319 (by decide +kernel) (q_id_of rfl) rfl (Nat.le_of_ble_eq_true rfl) (s_mono h (s_V_of (fun u110 h => ?_)) (fun _ _ h9 => h9))
          show s_Ex (d + 1) 0 mX12_law 54 [some (.ref (79)), some (.int (x1)), none] [] u110 Q X
          refine s_blk [(.aload_n 0, 1, 0, 0)] 55 [some (.ref (79)), some (.int (x1)), none] [.ref (79)] u110 [] (by decide +kernel) (by refine qt_aload_n (r := 79) rfl ?_; exact qt_z rfl rfl rfl rfl rfl) trivial ?_
          refine s_callV (a := 0) (a' := 0) (As := []) (id := 79) (st := []) kX12_fine l_12_164 (by decide +kernel) (q_id_of rfl) rfl (Nat.le_of_ble_eq_true rfl) (s_mono h (s_I_of (fun v111 u112 h => ?_)) (fun _ _ h9 => h9))
          show s_Ex (d + 1) 0 mX12_law 58 [some (.ref (79)), some (.int (x1)), none] [.int (v111)] u112 Q X
          refine s_if (cd := .eq) (off := 19) 77 (by decide +kernel) (by decide) (fun hc => ?_) (fun hc => ?_)
          · replace h := h.1 hc
            refine s_blk [(.aload_n 0, 1, 0, 0), (.iconst 1, 1, 0, 0)] 79 [some (.ref (79)), some (.int (x1)), none] [.int (1), .ref (79)] u112 [] (by decide +kernel) (by refine qt_aload_n (r := 79) rfl ?_; refine qt_iconst qc_1 ?_; exact qt_z rfl rfl rfl rfl rfl) trivial ?_
            refine s_callV (a := 0) (a' := 0) (As := [.int (1)]) (id := 79) (st := []) kX12_result l_12_300 (by decide +kernel) (q_id_of rfl) rfl (Nat.le_of_ble_eq_true rfl) (s_mono h (s_I_of (fun v113 u114 h => ?_)) (fun _ _ h9 => h9))
            show s_Ex (d + 1) 0 mX12_law 82 [some (.ref (79)), some (.int (x1)), none] [.int (v113)] u114 Q X
            refine s_blk [(.istore_n 2, 1, 0, 0), (.aload_n 0, 1, 0, 0), (.getfield 135, 3, 12, 5), (.iconst (-1), 1, 0, 0)] 88 [some (.ref (79)), some (.int (x1)), some (.int (v113))] [.int (-1), .int (u114.1 79 5)] u114 [q_id 116 12 79] (by decide +kernel) (by refine qt_istore_n (L' := [some (.ref (79)), some (.int (x1)), some (.int (v113))]) rfl ?_; refine qt_aload_n (r := 79) rfl ?_; refine qt_getI rfl ?_; refine qt_iconst qc_m1 ?_; exact qt_z rfl rfl rfl rfl rfl) (q_id_of rfl) ?_
            refine s_icmp (cd := .eq) (off := 5) 93 (by decide +kernel) (by decide) (fun hc => ?_) (fun hc => ?_)
            · replace h := h.1 hc
              replace h := h _ rfl
              refine s_blk [(.aload_n 0, 1, 0, 0), (.aload_n 0, 1, 0, 0), (.getfield 304, 3, 12, 39), (.putfield 212, 3, 12, 40), (.aload_n 0, 1, 0, 0), (.aload_n 0, 1, 0, 0), (.getfield 65, 3, 12, 34), (.aload_n 0, 1, 0, 0), (.getfield 71, 3, 12, 36), (.aload_n 0, 1, 0, 0), (.getfield 304, 3, 12, 39)] 114 [some (.ref (79)), some (.int (x1)), some (.int (v113))] [.int ((q_wI u114 79 40 (u114.1 79 39)).1 79 39), .ref (98), .ref (96), .ref (79)] (q_wI u114 79 40 (u114.1 79 39)) [q_id 116 12 79, q_id 116 12 79, q_id 116 12 79, q_id 116 12 79, q_id 116 12 79] (by decide +kernel) (by refine qt_aload_n (r := 79) rfl ?_; refine qt_aload_n (r := 79) rfl ?_; refine qt_getI rfl ?_; refine qt_putI rfl ?_; refine qt_aload_n (r := 79) rfl ?_; refine qt_aload_n (r := 79) rfl ?_; refine qt_getR (r := 96) rfl rfl ?_; refine qt_aload_n (r := 79) rfl ?_; refine qt_getR (r := 98) rfl rfl ?_; refine qt_aload_n (r := 79) rfl ?_; refine qt_getI rfl ?_; exact qt_z rfl rfl rfl rfl rfl) ⟨(q_id_of rfl), (q_id_of rfl), (q_id_of rfl), (q_id_of rfl), (q_id_of rfl)⟩ ?_
              refine s_callV (a := 0) (a' := 0) (As := [.ref (96), .ref (98), .int ((q_wI u114 79 40 (u114.1 79 39)).1 79 39)]) (id := 79) (st := []) kX12_copies l_12_208 (by decide +kernel) (q_id_of rfl) rfl (Nat.le_of_ble_eq_true rfl) (s_mono h (s_V_of (fun u117 h => ?_)) (fun _ _ h9 => h9))
              show s_Ex (d + 1) 0 mX12_law 117 [some (.ref (79)), some (.int (x1)), some (.int (v113))] [] u117 Q X
              refine s_blk [(.aload_n 0, 1, 0, 0), (.aload_n 0, 1, 0, 0), (.getfield 68, 3, 12, 35), (.aload_n 0, 1, 0, 0), (.getfield 74, 3, 12, 37), (.aload_n 0, 1, 0, 0), (.getfield 304, 3, 12, 39)] 130 [some (.ref (79)), some (.int (x1)), some (.int (v113))] [.int (u117.1 79 39), .ref (99), .ref (97), .ref (79)] u117 [q_id 116 12 79, q_id 116 12 79, q_id 116 12 79] (by decide +kernel) (by refine qt_aload_n (r := 79) rfl ?_; refine qt_aload_n (r := 79) rfl ?_; refine qt_getR (r := 97) rfl rfl ?_; refine qt_aload_n (r := 79) rfl ?_; refine qt_getR (r := 99) rfl rfl ?_; refine qt_aload_n (r := 79) rfl ?_; refine qt_getI rfl ?_; exact qt_z rfl rfl rfl rfl rfl) ⟨(q_id_of rfl), (q_id_of rfl), (q_id_of rfl)⟩ ?_
              refine s_callV (a := 0) (a' := 0) (As := [.ref (97), .ref (99), .int (u117.1 79 39)]) (id := 79) (st := []) kX12_copies l_12_208 (by decide +kernel) (q_id_of rfl) rfl (Nat.le_of_ble_eq_true rfl) (s_mono h (s_V_of (fun u119 h => ?_)) (fun _ _ h9 => h9))
              show s_Ex (d + 1) 0 mX12_law 133 [some (.ref (79)), some (.int (x1)), some (.int (v113))] [] u119 Q X
              refine s_blk [(.iload_n 2, 1, 0, 0)] 134 [some (.ref (79)), some (.int (x1)), some (.int (v113))] [.int (v113)] u119 [] (by decide +kernel) (by refine qt_iload_n (x := v113) rfl ?_; exact qt_z rfl rfl rfl rfl rfl) trivial ?_
              exact s_retI .int (by decide +kernel) rfl rfl h
            · replace h := h.2 hc
              refine s_blk [(.iload_n 2, 1, 0, 0)] 92 [some (.ref (79)), some (.int (x1)), some (.int (v113))] [.int (v113)] u114 [] (by decide +kernel) (by refine qt_iload_n (x := v113) rfl ?_; exact qt_z rfl rfl rfl rfl rfl) trivial ?_
              exact s_retI .int (by decide +kernel) rfl rfl h
          · replace h := h.2 hc
            refine s_blk [(.aload_n 0, 1, 0, 0)] 62 [some (.ref (79)), some (.int (x1)), none] [.ref (79)] u112 [] (by decide +kernel) (by refine qt_aload_n (r := 79) rfl ?_; exact qt_z rfl rfl rfl rfl rfl) trivial ?_
            refine s_callV (a := 0) (a' := 0) (As := []) (id := 79) (st := []) kX12_isMore l_12_278 (by decide +kernel) (q_id_of rfl) rfl (Nat.le_of_ble_eq_true rfl) (s_mono h (s_I_of (fun v120 u121 h => ?_)) (fun _ _ h9 => h9))
            show s_Ex (d + 1) 0 mX12_law 65 [some (.ref (79)), some (.int (x1)), none] [.int (v120)] u121 Q X
            refine s_if (cd := .eq) (off := 12) 77 (by decide +kernel) (by decide) (fun hc => ?_) (fun hc => ?_)
            · replace h := h.1 hc
              refine s_blk [(.aload_n 0, 1, 0, 0), (.iconst 1, 1, 0, 0)] 79 [some (.ref (79)), some (.int (x1)), none] [.int (1), .ref (79)] u121 [] (by decide +kernel) (by refine qt_aload_n (r := 79) rfl ?_; refine qt_iconst qc_1 ?_; exact qt_z rfl rfl rfl rfl rfl) trivial ?_
              refine s_callV (a := 0) (a' := 0) (As := [.int (1)]) (id := 79) (st := []) kX12_result l_12_300 (by decide +kernel) (q_id_of rfl) rfl (Nat.le_of_ble_eq_true rfl) (s_mono h (s_I_of (fun v122 u123 h => ?_)) (fun _ _ h9 => h9))
              show s_Ex (d + 1) 0 mX12_law 82 [some (.ref (79)), some (.int (x1)), none] [.int (v122)] u123 Q X
              refine s_blk [(.istore_n 2, 1, 0, 0), (.aload_n 0, 1, 0, 0), (.getfield 135, 3, 12, 5), (.iconst (-1), 1, 0, 0)] 88 [some (.ref (79)), some (.int (x1)), some (.int (v122))] [.int (-1), .int (u123.1 79 5)] u123 [q_id 116 12 79] (by decide +kernel) (by refine qt_istore_n (L' := [some (.ref (79)), some (.int (x1)), some (.int (v122))]) rfl ?_; refine qt_aload_n (r := 79) rfl ?_; refine qt_getI rfl ?_; refine qt_iconst qc_m1 ?_; exact qt_z rfl rfl rfl rfl rfl) (q_id_of rfl) ?_
              refine s_icmp (cd := .eq) (off := 5) 93 (by decide +kernel) (by decide) (fun hc => ?_) (fun hc => ?_)
              · replace h := h.1 hc
                replace h := h _ rfl
                refine s_blk [(.aload_n 0, 1, 0, 0), (.aload_n 0, 1, 0, 0), (.getfield 304, 3, 12, 39), (.putfield 212, 3, 12, 40), (.aload_n 0, 1, 0, 0), (.aload_n 0, 1, 0, 0), (.getfield 65, 3, 12, 34), (.aload_n 0, 1, 0, 0), (.getfield 71, 3, 12, 36), (.aload_n 0, 1, 0, 0), (.getfield 304, 3, 12, 39)] 114 [some (.ref (79)), some (.int (x1)), some (.int (v122))] [.int ((q_wI u123 79 40 (u123.1 79 39)).1 79 39), .ref (98), .ref (96), .ref (79)] (q_wI u123 79 40 (u123.1 79 39)) [q_id 116 12 79, q_id 116 12 79, q_id 116 12 79, q_id 116 12 79, q_id 116 12 79] (by decide +kernel) (by refine qt_aload_n (r := 79) rfl ?_; refine qt_aload_n (r := 79) rfl ?_; refine qt_getI rfl ?_; refine qt_putI rfl ?_; refine qt_aload_n (r := 79) rfl ?_; refine qt_aload_n (r := 79) rfl ?_; refine qt_getR (r := 96) rfl rfl ?_; refine qt_aload_n (r := 79) rfl ?_; refine qt_getR (r := 98) rfl rfl ?_; refine qt_aload_n (r := 79) rfl ?_; refine qt_getI rfl ?_; exact qt_z rfl rfl rfl rfl rfl) ⟨(q_id_of rfl), (q_id_of rfl), (q_id_of rfl), (q_id_of rfl), (q_id_of rfl)⟩ ?_
                refine s_callV (a := 0) (a' := 0) (As := [.ref (96), .ref (98), .int ((q_wI u123 79 40 (u123.1 79 39)).1 79 39)]) (id := 79) (st := []) kX12_copies l_12_208 (by decide +kernel) (q_id_of rfl) rfl (Nat.le_of_ble_eq_true rfl) (s_mono h (s_V_of (fun u126 h => ?_)) (fun _ _ h9 => h9))
                show s_Ex (d + 1) 0 mX12_law 117 [some (.ref (79)), some (.int (x1)), some (.int (v122))] [] u126 Q X
                refine s_blk [(.aload_n 0, 1, 0, 0), (.aload_n 0, 1, 0, 0), (.getfield 68, 3, 12, 35), (.aload_n 0, 1, 0, 0), (.getfield 74, 3, 12, 37), (.aload_n 0, 1, 0, 0), (.getfield 304, 3, 12, 39)] 130 [some (.ref (79)), some (.int (x1)), some (.int (v122))] [.int (u126.1 79 39), .ref (99), .ref (97), .ref (79)] u126 [q_id 116 12 79, q_id 116 12 79, q_id 116 12 79] (by decide +kernel) (by refine qt_aload_n (r := 79) rfl ?_; refine qt_aload_n (r := 79) rfl ?_; refine qt_getR (r := 97) rfl rfl ?_; refine qt_aload_n (r := 79) rfl ?_; refine qt_getR (r := 99) rfl rfl ?_; refine qt_aload_n (r := 79) rfl ?_; refine qt_getI rfl ?_; exact qt_z rfl rfl rfl rfl rfl) ⟨(q_id_of rfl), (q_id_of rfl), (q_id_of rfl)⟩ ?_
                refine s_callV (a := 0) (a' := 0) (As := [.ref (97), .ref (99), .int (u126.1 79 39)]) (id := 79) (st := []) kX12_copies l_12_208 (by decide +kernel) (q_id_of rfl) rfl (Nat.le_of_ble_eq_true rfl) (s_mono h (s_V_of (fun u128 h => ?_)) (fun _ _ h9 => h9))
                show s_Ex (d + 1) 0 mX12_law 133 [some (.ref (79)), some (.int (x1)), some (.int (v122))] [] u128 Q X
                refine s_blk [(.iload_n 2, 1, 0, 0)] 134 [some (.ref (79)), some (.int (x1)), some (.int (v122))] [.int (v122)] u128 [] (by decide +kernel) (by refine qt_iload_n (x := v122) rfl ?_; exact qt_z rfl rfl rfl rfl rfl) trivial ?_
                exact s_retI .int (by decide +kernel) rfl rfl h
              · replace h := h.2 hc
                refine s_blk [(.iload_n 2, 1, 0, 0)] 92 [some (.ref (79)), some (.int (x1)), some (.int (v122))] [.int (v122)] u123 [] (by decide +kernel) (by refine qt_iload_n (x := v122) rfl ?_; exact qt_z rfl rfl rfl rfl rfl) trivial ?_
                exact s_retI .int (by decide +kernel) rfl rfl h
            · replace h := h.2 hc
              refine s_blk [(.aload_n 0, 1, 0, 0), (.iconst 1, 1, 0, 0), (.aload_n 0, 1, 0, 0), (.getfield 141, 3, 12, 4)] 74 [some (.ref (79)), some (.int (x1)), none] [.int (u121.1 79 4), .int (1), .ref (79)] u121 [q_id 116 12 79] (by decide +kernel) (by refine qt_aload_n (r := 79) rfl ?_; refine qt_iconst qc_1 ?_; refine qt_aload_n (r := 79) rfl ?_; refine qt_getI rfl ?_; exact qt_z rfl rfl rfl rfl rfl) (q_id_of rfl) ?_
              refine s_callV (a := 0) (a' := 0) (As := [.int (1), .int (u121.1 79 4)]) (id := 79) (st := []) kX12_wrong l_12_171 (by decide +kernel) (q_id_of rfl) rfl (Nat.le_of_ble_eq_true rfl) (s_mono h (s_V_of (fun u130 h => ?_)) (fun _ _ h9 => h9))
              show s_Ex (d + 1) 0 mX12_law 77 [some (.ref (79)), some (.int (x1)), none] [] u130 Q X
              refine s_blk [(.aload_n 0, 1, 0, 0), (.iconst 1, 1, 0, 0)] 79 [some (.ref (79)), some (.int (x1)), none] [.int (1), .ref (79)] u130 [] (by decide +kernel) (by refine qt_aload_n (r := 79) rfl ?_; refine qt_iconst qc_1 ?_; exact qt_z rfl rfl rfl rfl rfl) trivial ?_
              refine s_callV (a := 0) (a' := 0) (As := [.int (1)]) (id := 79) (st := []) kX12_result l_12_300 (by decide +kernel) (q_id_of rfl) rfl (Nat.le_of_ble_eq_true rfl) (s_mono h (s_I_of (fun v131 u132 h => ?_)) (fun _ _ h9 => h9))
              show s_Ex (d + 1) 0 mX12_law 82 [some (.ref (79)), some (.int (x1)), none] [.int (v131)] u132 Q X
              refine s_blk [(.istore_n 2, 1, 0, 0), (.aload_n 0, 1, 0, 0), (.getfield 135, 3, 12, 5), (.iconst (-1), 1, 0, 0)] 88 [some (.ref (79)), some (.int (x1)), some (.int (v131))] [.int (-1), .int (u132.1 79 5)] u132 [q_id 116 12 79] (by decide +kernel) (by refine qt_istore_n (L' := [some (.ref (79)), some (.int (x1)), some (.int (v131))]) rfl ?_; refine qt_aload_n (r := 79) rfl ?_; refine qt_getI rfl ?_; refine qt_iconst qc_m1 ?_; exact qt_z rfl rfl rfl rfl rfl) (q_id_of rfl) ?_
              refine s_icmp (cd := .eq) (off := 5) 93 (by decide +kernel) (by decide) (fun hc => ?_) (fun hc => ?_)
              · replace h := h.1 hc
                replace h := h _ rfl
                refine s_blk [(.aload_n 0, 1, 0, 0), (.aload_n 0, 1, 0, 0), (.getfield 304, 3, 12, 39), (.putfield 212, 3, 12, 40), (.aload_n 0, 1, 0, 0), (.aload_n 0, 1, 0, 0), (.getfield 65, 3, 12, 34), (.aload_n 0, 1, 0, 0), (.getfield 71, 3, 12, 36), (.aload_n 0, 1, 0, 0), (.getfield 304, 3, 12, 39)] 114 [some (.ref (79)), some (.int (x1)), some (.int (v131))] [.int ((q_wI u132 79 40 (u132.1 79 39)).1 79 39), .ref (98), .ref (96), .ref (79)] (q_wI u132 79 40 (u132.1 79 39)) [q_id 116 12 79, q_id 116 12 79, q_id 116 12 79, q_id 116 12 79, q_id 116 12 79] (by decide +kernel) (by refine qt_aload_n (r := 79) rfl ?_; refine qt_aload_n (r := 79) rfl ?_; refine qt_getI rfl ?_; refine qt_putI rfl ?_; refine qt_aload_n (r := 79) rfl ?_; refine qt_aload_n (r := 79) rfl ?_; refine qt_getR (r := 96) rfl rfl ?_; refine qt_aload_n (r := 79) rfl ?_; refine qt_getR (r := 98) rfl rfl ?_; refine qt_aload_n (r := 79) rfl ?_; refine qt_getI rfl ?_; exact qt_z rfl rfl rfl rfl rfl) ⟨(q_id_of rfl), (q_id_of rfl), (q_id_of rfl), (q_id_of rfl), (q_id_of rfl)⟩ ?_
                refine s_callV (a := 0) (a' := 0) (As := [.ref (96), .ref (98), .int ((q_wI u132 79 40 (u132.1 79 39)).1 79 39)]) (id := 79) (st := []) kX12_copies l_12_208 (by decide +kernel) (q_id_of rfl) rfl (Nat.le_of_ble_eq_true rfl) (s_mono h (s_V_of (fun u135 h => ?_)) (fun _ _ h9 => h9))
                show s_Ex (d + 1) 0 mX12_law 117 [some (.ref (79)), some (.int (x1)), some (.int (v131))] [] u135 Q X
                refine s_blk [(.aload_n 0, 1, 0, 0), (.aload_n 0, 1, 0, 0), (.getfield 68, 3, 12, 35), (.aload_n 0, 1, 0, 0), (.getfield 74, 3, 12, 37), (.aload_n 0, 1, 0, 0), (.getfield 304, 3, 12, 39)] 130 [some (.ref (79)), some (.int (x1)), some (.int (v131))] [.int (u135.1 79 39), .ref (99), .ref (97), .ref (79)] u135 [q_id 116 12 79, q_id 116 12 79, q_id 116 12 79] (by decide +kernel) (by refine qt_aload_n (r := 79) rfl ?_; refine qt_aload_n (r := 79) rfl ?_; refine qt_getR (r := 97) rfl rfl ?_; refine qt_aload_n (r := 79) rfl ?_; refine qt_getR (r := 99) rfl rfl ?_; refine qt_aload_n (r := 79) rfl ?_; refine qt_getI rfl ?_; exact qt_z rfl rfl rfl rfl rfl) ⟨(q_id_of rfl), (q_id_of rfl), (q_id_of rfl)⟩ ?_
                refine s_callV (a := 0) (a' := 0) (As := [.ref (97), .ref (99), .int (u135.1 79 39)]) (id := 79) (st := []) kX12_copies l_12_208 (by decide +kernel) (q_id_of rfl) rfl (Nat.le_of_ble_eq_true rfl) (s_mono h (s_V_of (fun u137 h => ?_)) (fun _ _ h9 => h9))
                show s_Ex (d + 1) 0 mX12_law 133 [some (.ref (79)), some (.int (x1)), some (.int (v131))] [] u137 Q X
                refine s_blk [(.iload_n 2, 1, 0, 0)] 134 [some (.ref (79)), some (.int (x1)), some (.int (v131))] [.int (v131)] u137 [] (by decide +kernel) (by refine qt_iload_n (x := v131) rfl ?_; exact qt_z rfl rfl rfl rfl rfl) trivial ?_
                exact s_retI .int (by decide +kernel) rfl rfl h
              · replace h := h.2 hc
                refine s_blk [(.iload_n 2, 1, 0, 0)] 92 [some (.ref (79)), some (.int (x1)), some (.int (v131))] [.int (v131)] u132 [] (by decide +kernel) (by refine qt_iload_n (x := v131) rfl ?_; exact qt_z rfl rfl rfl rfl rfl) trivial ?_
                exact s_retI .int (by decide +kernel) rfl rfl h
        · replace h := h.2 hc
          refine s_blk [(.iconst 0, 1, 0, 0)] 39 [some (.ref (79)), some (.int (x1)), none] [.int (0)] u105 [] (by decide +kernel) (by refine qt_iconst qc_0 ?_; exact qt_z rfl rfl rfl rfl rfl) trivial ?_
          exact s_retI .int (by decide +kernel) rfl rfl h
theorem eX12_law {d : Nat} {x1 : Int32} {w : q_Sm} {Q : s_Po} {X : s_Xo} (h : vX12_law_0 d x1 w Q X) : s_Ev (d + 1) 0 mX12_law w [.ref (79), .int (x1)] Q X := s_of (by decide) rfl (Nat.le_of_ble_eq_true rfl) (xX12_law_0 h)
def vX12_valueNow_0 (d : Nat)  (w : q_Sm) (Q : s_Po) (X : s_Xo) : Prop := s_Ex (d + 1) 0 mX12_valueNow 4 [some (.ref (79)), some (.int (0)), some (.int (0)), none] [] w Q X
def vX12_valueNow_4 (d : Nat) (x1 : Int32) (x2 : Int32) (w : q_Sm) (Q : s_Po) (X : s_Xo) : Prop := (((w.1 79 40) ≤ x2) → Q (some (.int (w.1 100 (Int32.toNatClampNeg 0)))) w) ∧ (¬ ((w.1 79 40) ≤ x2) → (vp_in x2 150) ∧ ((1 < (w.1 98 (Int32.toNatClampNeg x2))) → (vp_in ((x1 + (-1)) - 1) 150) ∧ (vp_in (x1 + (-1)) 150) ∧ s_EvI d 0 mX12_both w [.int (w.1 98 (Int32.toNatClampNeg x2)), .int (w.1 100 (Int32.toNatClampNeg ((x1 + (-1)) - 1))), .int (w.1 100 (Int32.toNatClampNeg (x1 + (-1))))] (fun v1 u2 => (vp_in ((x1 + (-1)) - 1) 150) ∧ ∀ w_3 : q_Sm, w_3 = q_wI u2 100 (Int32.toNatClampNeg ((x1 + (-1)) - 1)) v1 → s_Ex (d + 1) 0 mX12_valueNow 4 [some (.ref (79)), some (.int (x1 + (-1))), some (.int (x2 + 1)), none] [] w_3 Q X) X) ∧ (¬ (1 < (w.1 98 (Int32.toNatClampNeg x2))) → ((¬ (w.1 98 (Int32.toNatClampNeg x2)) = 0) → (vp_in x2 150) ∧ (vp_in (w.1 99 (Int32.toNatClampNeg x2)) 7) ∧ (vp_in x1 150) ∧ ∀ w_7 : q_Sm, w_7 = q_wI w 100 (Int32.toNatClampNeg x1) (w.1 101 (Int32.toNatClampNeg (w.1 99 (Int32.toNatClampNeg x2)))) → s_Ex (d + 1) 0 mX12_valueNow 4 [some (.ref (79)), some (.int (x1 + 1)), some (.int (x2 + 1)), none] [] w_7 Q X) ∧ (¬ (¬ (w.1 98 (Int32.toNatClampNeg x2)) = 0) → (vp_in x2 150) ∧ (vp_in x1 150) ∧ ∀ w_11 : q_Sm, w_11 = q_wI w 100 (Int32.toNatClampNeg x1) (w.1 99 (Int32.toNatClampNeg x2)) → s_Ex (d + 1) 0 mX12_valueNow 4 [some (.ref (79)), some (.int (x1 + 1)), some (.int (x2 + 1)), none] [] w_11 Q X)))
theorem xX12_valueNow_0 {d : Nat}  {w : q_Sm} {Q : s_Po} {X : s_Xo} (h : vX12_valueNow_0 d  w Q X) : s_Ex (d + 1) 0 mX12_valueNow 0 [some (.ref (79)), none, none, none] [] w Q X := by
  unfold vX12_valueNow_0 at h
  refine s_blk [(.iconst 0, 1, 0, 0), (.istore_n 1, 1, 0, 0), (.iconst 0, 1, 0, 0), (.istore_n 2, 1, 0, 0)] 4 [some (.ref (79)), some (.int (0)), some (.int (0)), none] [] w [] (by decide +kernel) (by refine qt_iconst qc_0 ?_; refine qt_istore_n (L' := [some (.ref (79)), some (.int (0)), none, none]) rfl ?_; refine qt_iconst qc_0 ?_; refine qt_istore_n (L' := [some (.ref (79)), some (.int (0)), some (.int (0)), none]) rfl ?_; exact qt_z rfl rfl rfl rfl rfl) trivial ?_
  exact h
theorem xX12_valueNow_4 {d : Nat} {x1 : Int32} {x2 : Int32} {w : q_Sm} {Q : s_Po} {X : s_Xo} (h : vX12_valueNow_4 d x1 x2 w Q X) : s_Ex (d + 1) 0 mX12_valueNow 4 [some (.ref (79)), some (.int (x1)), some (.int (x2)), none] [] w Q X := by
  unfold vX12_valueNow_4 at h
  refine s_blk [(.iload_n 2, 1, 0, 0), (.aload_n 0, 1, 0, 0), (.getfield 212, 3, 12, 40)] 9 [some (.ref (79)), some (.int (x1)), some (.int (x2)), none] [.int (w.1 79 40), .int (x2)] w [q_id 116 12 79] (by decide +kernel) (by refine qt_iload_n (x := x2) rfl ?_; refine qt_aload_n (r := 79) rfl ?_; refine qt_getI rfl ?_; exact qt_z rfl rfl rfl rfl rfl) (q_id_of rfl) ?_
  refine s_icmp (cd := .ge) (off := 86) 95 (by decide +kernel) (by decide) (fun hc => ?_) (fun hc => ?_)
  · replace h := h.1 hc
    refine s_blk [(.aload_n 0, 1, 0, 0), (.getfield 77, 3, 12, 38), (.iconst 0, 1, 0, 0), (.iaload, 1, 0, 0)] 101 [some (.ref (79)), some (.int (x1)), some (.int (x2)), none] [.int (w.1 100 (Int32.toNatClampNeg 0))] w [q_id 116 12 79, q_id 116 14 100, vp_in 0 150] (by decide +kernel) (by refine qt_aload_n (r := 79) rfl ?_; refine qt_getR (r := 100) rfl rfl ?_; refine qt_iconst qc_0 ?_; refine qt_iald ?_; exact qt_z rfl rfl rfl rfl rfl) ⟨(q_id_of rfl), (q_id_of rfl), (q_vin rfl)⟩ ?_
    exact s_retI .int (by decide +kernel) rfl rfl h
  · replace h := h.2 hc
    obtain ⟨ho14, h⟩ := h
    refine s_blk [(.aload_n 0, 1, 0, 0), (.getfield 71, 3, 12, 36), (.iload_n 2, 1, 0, 0), (.iaload, 1, 0, 0), (.istore_n 3, 1, 0, 0), (.iload_n 3, 1, 0, 0), (.iconst 1, 1, 0, 0)] 21 [some (.ref (79)), some (.int (x1)), some (.int (x2)), some (.int (w.1 98 (Int32.toNatClampNeg x2)))] [.int (1), .int (w.1 98 (Int32.toNatClampNeg x2))] w [q_id 116 12 79, q_id 116 14 98, vp_in x2 150] (by decide +kernel) (by refine qt_aload_n (r := 79) rfl ?_; refine qt_getR (r := 98) rfl rfl ?_; refine qt_iload_n (x := x2) rfl ?_; refine qt_iald ?_; refine qt_istore_n (L' := [some (.ref (79)), some (.int (x1)), some (.int (x2)), some (.int (w.1 98 (Int32.toNatClampNeg x2)))]) rfl ?_; refine qt_iload_n (x := w.1 98 (Int32.toNatClampNeg x2)) rfl ?_; refine qt_iconst qc_1 ?_; exact qt_z rfl rfl rfl rfl rfl) ⟨(q_id_of rfl), (q_id_of rfl), ho14⟩ ?_
    refine s_icmp (cd := .gt) (off := 39) 60 (by decide +kernel) (by decide) (fun hc => ?_) (fun hc => ?_)
    · replace h := h.1 hc
      obtain ⟨ho5, h⟩ := h
      obtain ⟨ho6, h⟩ := h
      refine s_blk [(.iinc 1 (-1), 3, 0, 0), (.aload_n 0, 1, 0, 0), (.getfield 77, 3, 12, 38), (.iload_n 1, 1, 0, 0), (.iconst 1, 1, 0, 0), (.isub, 1, 0, 0), (.iload_n 3, 1, 0, 0), (.aload_n 0, 1, 0, 0), (.getfield 77, 3, 12, 38), (.iload_n 1, 1, 0, 0), (.iconst 1, 1, 0, 0), (.isub, 1, 0, 0), (.iaload, 1, 0, 0), (.aload_n 0, 1, 0, 0), (.getfield 77, 3, 12, 38), (.iload_n 1, 1, 0, 0), (.iaload, 1, 0, 0)] 85 [some (.ref (79)), some (.int (x1 + (-1))), some (.int (x2)), some (.int (w.1 98 (Int32.toNatClampNeg x2)))] [.int (w.1 100 (Int32.toNatClampNeg (x1 + (-1)))), .int (w.1 100 (Int32.toNatClampNeg ((x1 + (-1)) - 1))), .int (w.1 98 (Int32.toNatClampNeg x2)), .int ((x1 + (-1)) - 1), .ref (100)] w [q_id 116 12 79, q_id 116 12 79, q_id 116 14 100, vp_in ((x1 + (-1)) - 1) 150, q_id 116 12 79, q_id 116 14 100, vp_in (x1 + (-1)) 150] (by decide +kernel) (by refine qt_iinc (x := x1) (L' := [some (.ref (79)), some (.int (x1 + (-1))), some (.int (x2)), some (.int (w.1 98 (Int32.toNatClampNeg x2)))]) rfl qc_m1 rfl ?_; refine qt_aload_n (r := 79) rfl ?_; refine qt_getR (r := 100) rfl rfl ?_; refine qt_iload_n (x := x1 + (-1)) rfl ?_; refine qt_iconst qc_1 ?_; refine qt_isub ?_; refine qt_iload_n (x := w.1 98 (Int32.toNatClampNeg x2)) rfl ?_; refine qt_aload_n (r := 79) rfl ?_; refine qt_getR (r := 100) rfl rfl ?_; refine qt_iload_n (x := x1 + (-1)) rfl ?_; refine qt_iconst qc_1 ?_; refine qt_isub ?_; refine qt_iald ?_; refine qt_aload_n (r := 79) rfl ?_; refine qt_getR (r := 100) rfl rfl ?_; refine qt_iload_n (x := x1 + (-1)) rfl ?_; refine qt_iald ?_; exact qt_z rfl rfl rfl rfl rfl) ⟨(q_id_of rfl), (q_id_of rfl), (q_id_of rfl), ho5, (q_id_of rfl), (q_id_of rfl), ho6⟩ ?_
      refine s_callS (a := 0) (a' := 0) (As := [.int (w.1 98 (Int32.toNatClampNeg x2)), .int (w.1 100 (Int32.toNatClampNeg ((x1 + (-1)) - 1))), .int (w.1 100 (Int32.toNatClampNeg (x1 + (-1))))]) (st := [.int ((x1 + (-1)) - 1), .ref (100)]) kX12_both l_12_344 (by decide +kernel) rfl (Nat.le_of_ble_eq_true rfl) (s_mono h (s_I_of (fun v1 u2 h => ?_)) (fun _ _ h9 => h9))
      show s_Ex (d + 1) 0 mX12_valueNow 88 [some (.ref (79)), some (.int (x1 + (-1))), some (.int (x2)), some (.int (w.1 98 (Int32.toNatClampNeg x2)))] [.int (v1), .int ((x1 + (-1)) - 1), .ref (100)] u2 Q X
      obtain ⟨ho4, h⟩ := h
      replace h := h _ rfl
      refine s_blk [(.iastore, 1, 0, 0), (.iinc 2 1, 3, 0, 0), (.goto (-88), 3, 4, 0), (.nop, 0, 3, 0)] 4 [some (.ref (79)), some (.int (x1 + (-1))), some (.int (x2 + 1)), none] [] (q_wI u2 100 (Int32.toNatClampNeg ((x1 + (-1)) - 1)) v1) [q_id 116 14 100, vp_in ((x1 + (-1)) - 1) 150] (by decide +kernel) (by refine qt_iast ?_; refine qt_iinc (x := x2) (L' := [some (.ref (79)), some (.int (x1 + (-1))), some (.int (x2 + 1)), some (.int (w.1 98 (Int32.toNatClampNeg x2)))]) rfl qc_1 rfl ?_; refine qt_goto ?_; refine qt_nop (L' := [some (.ref (79)), some (.int (x1 + (-1))), some (.int (x2 + 1)), none]) rfl ?_; exact qt_z rfl rfl rfl rfl rfl) ⟨(q_id_of rfl), ho4⟩ ?_
      exact h
    · replace h := h.2 hc
      refine s_blk [(.aload_n 0, 1, 0, 0), (.getfield 77, 3, 12, 38), (.iload_n 1, 1, 0, 0), (.iload_n 3, 1, 0, 0)] 30 [some (.ref (79)), some (.int (x1)), some (.int (x2)), some (.int (w.1 98 (Int32.toNatClampNeg x2)))] [.int (w.1 98 (Int32.toNatClampNeg x2)), .int (x1), .ref (100)] w [q_id 116 12 79] (by decide +kernel) (by refine qt_aload_n (r := 79) rfl ?_; refine qt_getR (r := 100) rfl rfl ?_; refine qt_iload_n (x := x1) rfl ?_; refine qt_iload_n (x := w.1 98 (Int32.toNatClampNeg x2)) rfl ?_; exact qt_z rfl rfl rfl rfl rfl) (q_id_of rfl) ?_
      refine s_if (cd := .ne) (off := 12) 42 (by decide +kernel) (by decide) (fun hc => ?_) (fun hc => ?_)
      · replace h := h.1 hc
        obtain ⟨ho8, h⟩ := h
        obtain ⟨ho9, h⟩ := h
        obtain ⟨ho10, h⟩ := h
        replace h := h _ rfl
        refine s_blk [(.aload_n 0, 1, 0, 0), (.getfield 80, 3, 12, 41), (.aload_n 0, 1, 0, 0), (.getfield 74, 3, 12, 37), (.iload_n 2, 1, 0, 0), (.iaload, 1, 0, 0), (.iaload, 1, 0, 0), (.iastore, 1, 0, 0), (.iinc 1 1, 3, 0, 0), (.goto 32, 3, 89, 0), (.iinc 2 1, 3, 0, 0), (.goto (-88), 3, 4, 0), (.nop, 0, 3, 0)] 4 [some (.ref (79)), some (.int (x1 + 1)), some (.int (x2 + 1)), none] [] (q_wI w 100 (Int32.toNatClampNeg x1) (w.1 101 (Int32.toNatClampNeg (w.1 99 (Int32.toNatClampNeg x2))))) [q_id 116 12 79, q_id 116 12 79, q_id 116 14 99, vp_in x2 150, q_id 116 14 101, vp_in (w.1 99 (Int32.toNatClampNeg x2)) 7, q_id 116 14 100, vp_in x1 150] (by decide +kernel) (by refine qt_aload_n (r := 79) rfl ?_; refine qt_getR (r := 101) rfl rfl ?_; refine qt_aload_n (r := 79) rfl ?_; refine qt_getR (r := 99) rfl rfl ?_; refine qt_iload_n (x := x2) rfl ?_; refine qt_iald ?_; refine qt_iald ?_; refine qt_iast ?_; refine qt_iinc (x := x1) (L' := [some (.ref (79)), some (.int (x1 + 1)), some (.int (x2)), some (.int (w.1 98 (Int32.toNatClampNeg x2)))]) rfl qc_1 rfl ?_; refine qt_goto ?_; refine qt_iinc (x := x2) (L' := [some (.ref (79)), some (.int (x1 + 1)), some (.int (x2 + 1)), some (.int (w.1 98 (Int32.toNatClampNeg x2)))]) rfl qc_1 rfl ?_; refine qt_goto ?_; refine qt_nop (L' := [some (.ref (79)), some (.int (x1 + 1)), some (.int (x2 + 1)), none]) rfl ?_; exact qt_z rfl rfl rfl rfl rfl) ⟨(q_id_of rfl), (q_id_of rfl), (q_id_of rfl), ho8, (q_id_of rfl), ho9, (q_id_of rfl), ho10⟩ ?_
        exact h
      · replace h := h.2 hc
        obtain ⟨ho12, h⟩ := h
        obtain ⟨ho13, h⟩ := h
        replace h := h _ rfl
        refine s_blk [(.aload_n 0, 1, 0, 0), (.getfield 74, 3, 12, 37), (.iload_n 2, 1, 0, 0), (.iaload, 1, 0, 0), (.goto 14, 3, 53, 0), (.iastore, 1, 0, 0), (.iinc 1 1, 3, 0, 0), (.goto 32, 3, 89, 0), (.iinc 2 1, 3, 0, 0), (.goto (-88), 3, 4, 0), (.nop, 0, 3, 0)] 4 [some (.ref (79)), some (.int (x1 + 1)), some (.int (x2 + 1)), none] [] (q_wI w 100 (Int32.toNatClampNeg x1) (w.1 99 (Int32.toNatClampNeg x2))) [q_id 116 12 79, q_id 116 14 99, vp_in x2 150, q_id 116 14 100, vp_in x1 150] (by decide +kernel) (by refine qt_aload_n (r := 79) rfl ?_; refine qt_getR (r := 99) rfl rfl ?_; refine qt_iload_n (x := x2) rfl ?_; refine qt_iald ?_; refine qt_goto ?_; refine qt_iast ?_; refine qt_iinc (x := x1) (L' := [some (.ref (79)), some (.int (x1 + 1)), some (.int (x2)), some (.int (w.1 98 (Int32.toNatClampNeg x2)))]) rfl qc_1 rfl ?_; refine qt_goto ?_; refine qt_iinc (x := x2) (L' := [some (.ref (79)), some (.int (x1 + 1)), some (.int (x2 + 1)), some (.int (w.1 98 (Int32.toNatClampNeg x2)))]) rfl qc_1 rfl ?_; refine qt_goto ?_; refine qt_nop (L' := [some (.ref (79)), some (.int (x1 + 1)), some (.int (x2 + 1)), none]) rfl ?_; exact qt_z rfl rfl rfl rfl rfl) ⟨(q_id_of rfl), (q_id_of rfl), ho12, (q_id_of rfl), ho13⟩ ?_
        exact h
theorem eX12_valueNow {d : Nat}  {w : q_Sm} {Q : s_Po} {X : s_Xo} (h : vX12_valueNow_0 d  w Q X) : s_Ev (d + 1) 0 mX12_valueNow w [.ref (79)] Q X := s_of (by decide) rfl (Nat.le_of_ble_eq_true rfl) (xX12_valueNow_0 h)
def vX12_both_0 (d : Nat) (x0 : Int32) (x1 : Int32) (x2 : Int32) (w : q_Sm) (Q : s_Po) (X : s_Xo) : Prop := ((¬ x0 = 2) → ((¬ x0 = 3) → ((¬ x0 = 4) → ((¬ x0 = 5) → ((x2 ≤ x1) → ((¬ x0 = 6) → ((¬ (0 : Int32) = 0) → Q (some (.int (x2))) w) ∧ (¬ (¬ (0 : Int32) = 0) → Q (some (.int (x1))) w)) ∧ (¬ (¬ x0 = 6) → ((¬ (0 : Int32) = 1) → Q (some (.int (x2))) w) ∧ (¬ (¬ (0 : Int32) = 1) → Q (some (.int (x1))) w))) ∧ (¬ (x2 ≤ x1) → ((¬ x0 = 6) → ((¬ (1 : Int32) = 0) → Q (some (.int (x2))) w) ∧ (¬ (¬ (1 : Int32) = 0) → Q (some (.int (x1))) w)) ∧ (¬ (¬ x0 = 6) → ((¬ (1 : Int32) = 1) → Q (some (.int (x2))) w) ∧ (¬ (¬ (1 : Int32) = 1) → Q (some (.int (x1))) w)))) ∧ (¬ (¬ x0 = 5) → ((¬ x2 = 0) → (¬ x2 = 0) ∧ Q (some (.int (x1 / x2))) w) ∧ (¬ (¬ x2 = 0) → Q (some (.int (0))) w))) ∧ (¬ (¬ x0 = 4) → Q (some (.int (x1 * x2))) w)) ∧ (¬ (¬ x0 = 3) → Q (some (.int (x1 - x2))) w)) ∧ (¬ (¬ x0 = 2) → Q (some (.int (x1 + x2))) w)
theorem xX12_both_0 {d : Nat} {x0 : Int32} {x1 : Int32} {x2 : Int32} {w : q_Sm} {Q : s_Po} {X : s_Xo} (h : vX12_both_0 d x0 x1 x2 w Q X) : s_Ex (d + 1) 0 mX12_both 0 [some (.int (x0)), some (.int (x1)), some (.int (x2))] [] w Q X := by
  unfold vX12_both_0 at h
  refine s_blk [(.iload_n 0, 1, 0, 0), (.iconst 2, 1, 0, 0)] 2 [some (.int (x0)), some (.int (x1)), some (.int (x2))] [.int (2), .int (x0)] w [] (by decide +kernel) (by refine qt_iload_n (x := x0) rfl ?_; refine qt_iconst qc_2 ?_; exact qt_z rfl rfl rfl rfl rfl) trivial ?_
  refine s_icmp (cd := .ne) (off := 7) 9 (by decide +kernel) (by decide) (fun hc => ?_) (fun hc => ?_)
  · replace h := h.1 hc
    refine s_blk [(.iload_n 0, 1, 0, 0), (.iconst 3, 1, 0, 0)] 11 [some (.int (x0)), some (.int (x1)), some (.int (x2))] [.int (3), .int (x0)] w [] (by decide +kernel) (by refine qt_iload_n (x := x0) rfl ?_; refine qt_iconst qc_3 ?_; exact qt_z rfl rfl rfl rfl rfl) trivial ?_
    refine s_icmp (cd := .ne) (off := 7) 18 (by decide +kernel) (by decide) (fun hc => ?_) (fun hc => ?_)
    · replace h := h.1 hc
      refine s_blk [(.iload_n 0, 1, 0, 0), (.iconst 4, 1, 0, 0)] 20 [some (.int (x0)), some (.int (x1)), some (.int (x2))] [.int (4), .int (x0)] w [] (by decide +kernel) (by refine qt_iload_n (x := x0) rfl ?_; refine qt_iconst qc_4 ?_; exact qt_z rfl rfl rfl rfl rfl) trivial ?_
      refine s_icmp (cd := .ne) (off := 7) 27 (by decide +kernel) (by decide) (fun hc => ?_) (fun hc => ?_)
      · replace h := h.1 hc
        refine s_blk [(.iload_n 0, 1, 0, 0), (.iconst 5, 1, 0, 0)] 29 [some (.int (x0)), some (.int (x1)), some (.int (x2))] [.int (5), .int (x0)] w [] (by decide +kernel) (by refine qt_iload_n (x := x0) rfl ?_; refine qt_iconst qc_5 ?_; exact qt_z rfl rfl rfl rfl rfl) trivial ?_
        refine s_icmp (cd := .ne) (off := 15) 44 (by decide +kernel) (by decide) (fun hc => ?_) (fun hc => ?_)
        · replace h := h.1 hc
          refine s_blk [(.iload_n 1, 1, 0, 0), (.iload_n 2, 1, 0, 0)] 46 [some (.int (x0)), some (.int (x1)), some (.int (x2))] [.int (x2), .int (x1)] w [] (by decide +kernel) (by refine qt_iload_n (x := x1) rfl ?_; refine qt_iload_n (x := x2) rfl ?_; exact qt_z rfl rfl rfl rfl rfl) trivial ?_
          refine s_icmp (cd := .ge) (off := 7) 53 (by decide +kernel) (by decide) (fun hc => ?_) (fun hc => ?_)
          · replace h := h.1 hc
            refine s_blk [(.iconst 0, 1, 0, 0), (.iload_n 0, 1, 0, 0), (.bipush 6, 2, 0, 0)] 57 [some (.int (x0)), some (.int (x1)), some (.int (x2))] [.int (6), .int (x0), .int (0)] w [] (by decide +kernel) (by refine qt_iconst qc_0 ?_; refine qt_iload_n (x := x0) rfl ?_; refine qt_bipush qb_6 ?_; exact qt_z rfl rfl rfl rfl rfl) trivial ?_
            refine s_icmp (cd := .ne) (off := 7) 64 (by decide +kernel) (by decide) (fun hc => ?_) (fun hc => ?_)
            · replace h := h.1 hc
              refine s_blk [(.iconst 0, 1, 0, 0)] 65 [some (.int (x0)), some (.int (x1)), some (.int (x2))] [.int (0), .int (0)] w [] (by decide +kernel) (by refine qt_iconst qc_0 ?_; exact qt_z rfl rfl rfl rfl rfl) trivial ?_
              refine s_icmp (cd := .ne) (off := 7) 72 (by decide +kernel) (by decide) (fun hc => ?_) (fun hc => ?_)
              · replace h := h.1 hc
                refine s_blk [(.iload_n 2, 1, 0, 0)] 73 [some (.int (x0)), some (.int (x1)), some (.int (x2))] [.int (x2)] w [] (by decide +kernel) (by refine qt_iload_n (x := x2) rfl ?_; exact qt_z rfl rfl rfl rfl rfl) trivial ?_
                exact s_retI .int (by decide +kernel) rfl rfl h
              · replace h := h.2 hc
                refine s_blk [(.iload_n 1, 1, 0, 0), (.goto 4, 3, 73, 0)] 73 [some (.int (x0)), some (.int (x1)), some (.int (x2))] [.int (x1)] w [] (by decide +kernel) (by refine qt_iload_n (x := x1) rfl ?_; refine qt_goto ?_; exact qt_z rfl rfl rfl rfl rfl) trivial ?_
                exact s_retI .int (by decide +kernel) rfl rfl h
            · replace h := h.2 hc
              refine s_blk [(.iconst 1, 1, 0, 0), (.goto 4, 3, 65, 0)] 65 [some (.int (x0)), some (.int (x1)), some (.int (x2))] [.int (1), .int (0)] w [] (by decide +kernel) (by refine qt_iconst qc_1 ?_; refine qt_goto ?_; exact qt_z rfl rfl rfl rfl rfl) trivial ?_
              refine s_icmp (cd := .ne) (off := 7) 72 (by decide +kernel) (by decide) (fun hc => ?_) (fun hc => ?_)
              · replace h := h.1 hc
                refine s_blk [(.iload_n 2, 1, 0, 0)] 73 [some (.int (x0)), some (.int (x1)), some (.int (x2))] [.int (x2)] w [] (by decide +kernel) (by refine qt_iload_n (x := x2) rfl ?_; exact qt_z rfl rfl rfl rfl rfl) trivial ?_
                exact s_retI .int (by decide +kernel) rfl rfl h
              · replace h := h.2 hc
                refine s_blk [(.iload_n 1, 1, 0, 0), (.goto 4, 3, 73, 0)] 73 [some (.int (x0)), some (.int (x1)), some (.int (x2))] [.int (x1)] w [] (by decide +kernel) (by refine qt_iload_n (x := x1) rfl ?_; refine qt_goto ?_; exact qt_z rfl rfl rfl rfl rfl) trivial ?_
                exact s_retI .int (by decide +kernel) rfl rfl h
          · replace h := h.2 hc
            refine s_blk [(.iconst 1, 1, 0, 0), (.goto 4, 3, 54, 0), (.iload_n 0, 1, 0, 0), (.bipush 6, 2, 0, 0)] 57 [some (.int (x0)), some (.int (x1)), some (.int (x2))] [.int (6), .int (x0), .int (1)] w [] (by decide +kernel) (by refine qt_iconst qc_1 ?_; refine qt_goto ?_; refine qt_iload_n (x := x0) rfl ?_; refine qt_bipush qb_6 ?_; exact qt_z rfl rfl rfl rfl rfl) trivial ?_
            refine s_icmp (cd := .ne) (off := 7) 64 (by decide +kernel) (by decide) (fun hc => ?_) (fun hc => ?_)
            · replace h := h.1 hc
              refine s_blk [(.iconst 0, 1, 0, 0)] 65 [some (.int (x0)), some (.int (x1)), some (.int (x2))] [.int (0), .int (1)] w [] (by decide +kernel) (by refine qt_iconst qc_0 ?_; exact qt_z rfl rfl rfl rfl rfl) trivial ?_
              refine s_icmp (cd := .ne) (off := 7) 72 (by decide +kernel) (by decide) (fun hc => ?_) (fun hc => ?_)
              · replace h := h.1 hc
                refine s_blk [(.iload_n 2, 1, 0, 0)] 73 [some (.int (x0)), some (.int (x1)), some (.int (x2))] [.int (x2)] w [] (by decide +kernel) (by refine qt_iload_n (x := x2) rfl ?_; exact qt_z rfl rfl rfl rfl rfl) trivial ?_
                exact s_retI .int (by decide +kernel) rfl rfl h
              · replace h := h.2 hc
                refine s_blk [(.iload_n 1, 1, 0, 0), (.goto 4, 3, 73, 0)] 73 [some (.int (x0)), some (.int (x1)), some (.int (x2))] [.int (x1)] w [] (by decide +kernel) (by refine qt_iload_n (x := x1) rfl ?_; refine qt_goto ?_; exact qt_z rfl rfl rfl rfl rfl) trivial ?_
                exact s_retI .int (by decide +kernel) rfl rfl h
            · replace h := h.2 hc
              refine s_blk [(.iconst 1, 1, 0, 0), (.goto 4, 3, 65, 0)] 65 [some (.int (x0)), some (.int (x1)), some (.int (x2))] [.int (1), .int (1)] w [] (by decide +kernel) (by refine qt_iconst qc_1 ?_; refine qt_goto ?_; exact qt_z rfl rfl rfl rfl rfl) trivial ?_
              refine s_icmp (cd := .ne) (off := 7) 72 (by decide +kernel) (by decide) (fun hc => ?_) (fun hc => ?_)
              · replace h := h.1 hc
                refine s_blk [(.iload_n 2, 1, 0, 0)] 73 [some (.int (x0)), some (.int (x1)), some (.int (x2))] [.int (x2)] w [] (by decide +kernel) (by refine qt_iload_n (x := x2) rfl ?_; exact qt_z rfl rfl rfl rfl rfl) trivial ?_
                exact s_retI .int (by decide +kernel) rfl rfl h
              · replace h := h.2 hc
                refine s_blk [(.iload_n 1, 1, 0, 0), (.goto 4, 3, 73, 0)] 73 [some (.int (x0)), some (.int (x1)), some (.int (x2))] [.int (x1)] w [] (by decide +kernel) (by refine qt_iload_n (x := x1) rfl ?_; refine qt_goto ?_; exact qt_z rfl rfl rfl rfl rfl) trivial ?_
                exact s_retI .int (by decide +kernel) rfl rfl h
        · replace h := h.2 hc
          refine s_blk [(.iload_n 2, 1, 0, 0)] 33 [some (.int (x0)), some (.int (x1)), some (.int (x2))] [.int (x2)] w [] (by decide +kernel) (by refine qt_iload_n (x := x2) rfl ?_; exact qt_z rfl rfl rfl rfl rfl) trivial ?_
          refine s_if (cd := .ne) (off := 7) 40 (by decide +kernel) (by decide) (fun hc => ?_) (fun hc => ?_)
          · replace h := h.1 hc
            obtain ⟨ho1, h⟩ := h
            refine s_blk [(.iload_n 1, 1, 0, 0), (.iload_n 2, 1, 0, 0), (.idiv, 1, 0, 0)] 43 [some (.int (x0)), some (.int (x1)), some (.int (x2))] [.int (x1 / x2)] w [¬ x2 = 0] (by decide +kernel) (by refine qt_iload_n (x := x1) rfl ?_; refine qt_iload_n (x := x2) rfl ?_; refine qt_idiv ?_; exact qt_z rfl rfl rfl rfl rfl) ho1 ?_
            exact s_retI .int (by decide +kernel) rfl rfl h
          · replace h := h.2 hc
            refine s_blk [(.iconst 0, 1, 0, 0), (.goto 6, 3, 43, 0)] 43 [some (.int (x0)), some (.int (x1)), some (.int (x2))] [.int (0)] w [] (by decide +kernel) (by refine qt_iconst qc_0 ?_; refine qt_goto ?_; exact qt_z rfl rfl rfl rfl rfl) trivial ?_
            exact s_retI .int (by decide +kernel) rfl rfl h
      · replace h := h.2 hc
        refine s_blk [(.iload_n 1, 1, 0, 0), (.iload_n 2, 1, 0, 0), (.imul, 1, 0, 0)] 26 [some (.int (x0)), some (.int (x1)), some (.int (x2))] [.int (x1 * x2)] w [] (by decide +kernel) (by refine qt_iload_n (x := x1) rfl ?_; refine qt_iload_n (x := x2) rfl ?_; refine qt_imul ?_; exact qt_z rfl rfl rfl rfl rfl) trivial ?_
        exact s_retI .int (by decide +kernel) rfl rfl h
    · replace h := h.2 hc
      refine s_blk [(.iload_n 1, 1, 0, 0), (.iload_n 2, 1, 0, 0), (.isub, 1, 0, 0)] 17 [some (.int (x0)), some (.int (x1)), some (.int (x2))] [.int (x1 - x2)] w [] (by decide +kernel) (by refine qt_iload_n (x := x1) rfl ?_; refine qt_iload_n (x := x2) rfl ?_; refine qt_isub ?_; exact qt_z rfl rfl rfl rfl rfl) trivial ?_
      exact s_retI .int (by decide +kernel) rfl rfl h
  · replace h := h.2 hc
    refine s_blk [(.iload_n 1, 1, 0, 0), (.iload_n 2, 1, 0, 0), (.iadd, 1, 0, 0)] 8 [some (.int (x0)), some (.int (x1)), some (.int (x2))] [.int (x1 + x2)] w [] (by decide +kernel) (by refine qt_iload_n (x := x1) rfl ?_; refine qt_iload_n (x := x2) rfl ?_; refine qt_iadd ?_; exact qt_z rfl rfl rfl rfl rfl) trivial ?_
    exact s_retI .int (by decide +kernel) rfl rfl h
theorem eX12_both {d : Nat} {x0 : Int32} {x1 : Int32} {x2 : Int32} {w : q_Sm} {Q : s_Po} {X : s_Xo} (h : vX12_both_0 d x0 x1 x2 w Q X) : s_Ev (d + 1) 0 mX12_both w [.int (x0), .int (x1), .int (x2)] Q X := s_of (by decide) rfl (Nat.le_of_ble_eq_true rfl) (xX12_both_0 h)
def vX12_growsNow_0 (d : Nat)  (w : q_Sm) (Q : s_Po) (X : s_Xo) : Prop := ((¬ (w.1 79 40) = 0) → s_EvI d 0 mX12_valueNow w [.ref (79)] (fun v1 u2 => ((0 ≤ v1) → ((v1 ≤ 99) → Q (some (.int (v1))) u2) ∧ (¬ (v1 ≤ 99) → Q (some (.int (99))) u2)) ∧ (¬ (0 ≤ v1) → Q (some (.int (0))) u2)) X) ∧ (¬ (¬ (w.1 79 40) = 0) → ((0 ≤ (((w.1 101 (Int32.toNatClampNeg 0)) * (w.1 101 (Int32.toNatClampNeg 1))) / 16)) → (((((w.1 101 (Int32.toNatClampNeg 0)) * (w.1 101 (Int32.toNatClampNeg 1))) / 16) ≤ 99) → Q (some (.int (((w.1 101 (Int32.toNatClampNeg 0)) * (w.1 101 (Int32.toNatClampNeg 1))) / 16))) w) ∧ (¬ ((((w.1 101 (Int32.toNatClampNeg 0)) * (w.1 101 (Int32.toNatClampNeg 1))) / 16) ≤ 99) → Q (some (.int (99))) w)) ∧ (¬ (0 ≤ (((w.1 101 (Int32.toNatClampNeg 0)) * (w.1 101 (Int32.toNatClampNeg 1))) / 16)) → Q (some (.int (0))) w))
theorem xX12_growsNow_0 {d : Nat}  {w : q_Sm} {Q : s_Po} {X : s_Xo} (h : vX12_growsNow_0 d  w Q X) : s_Ex (d + 1) 0 mX12_growsNow 0 [some (.ref (79)), none] [] w Q X := by
  unfold vX12_growsNow_0 at h
  refine s_blk [(.aload_n 0, 1, 0, 0), (.getfield 212, 3, 12, 40)] 4 [some (.ref (79)), none] [.int (w.1 79 40)] w [q_id 116 12 79] (by decide +kernel) (by refine qt_aload_n (r := 79) rfl ?_; refine qt_getI rfl ?_; exact qt_z rfl rfl rfl rfl rfl) (q_id_of rfl) ?_
  refine s_if (cd := .ne) (off := 22) 26 (by decide +kernel) (by decide) (fun hc => ?_) (fun hc => ?_)
  · replace h := h.1 hc
    refine s_blk [(.aload_n 0, 1, 0, 0)] 27 [some (.ref (79)), none] [.ref (79)] w [] (by decide +kernel) (by refine qt_aload_n (r := 79) rfl ?_; exact qt_z rfl rfl rfl rfl rfl) trivial ?_
    refine s_callV (a := 0) (a' := 0) (As := []) (id := 79) (st := []) kX12_valueNow l_12_348 (by decide +kernel) (q_id_of rfl) rfl (Nat.le_of_ble_eq_true rfl) (s_mono h (s_I_of (fun v1 u2 h => ?_)) (fun _ _ h9 => h9))
    show s_Ex (d + 1) 0 mX12_growsNow 30 [some (.ref (79)), none] [.int (v1)] u2 Q X
    refine s_blk [(.istore_n 1, 1, 0, 0), (.iload_n 1, 1, 0, 0)] 32 [some (.ref (79)), some (.int (v1))] [.int (v1)] u2 [] (by decide +kernel) (by refine qt_istore_n (L' := [some (.ref (79)), some (.int (v1))]) rfl ?_; refine qt_iload_n (x := v1) rfl ?_; exact qt_z rfl rfl rfl rfl rfl) trivial ?_
    refine s_if (cd := .ge) (off := 7) 39 (by decide +kernel) (by decide) (fun hc => ?_) (fun hc => ?_)
    · replace h := h.1 hc
      refine s_blk [(.iload_n 1, 1, 0, 0), (.bipush 99, 2, 0, 0)] 42 [some (.ref (79)), some (.int (v1))] [.int (99), .int (v1)] u2 [] (by decide +kernel) (by refine qt_iload_n (x := v1) rfl ?_; refine qt_bipush qb_99 ?_; exact qt_z rfl rfl rfl rfl rfl) trivial ?_
      refine s_icmp (cd := .le) (off := 8) 50 (by decide +kernel) (by decide) (fun hc => ?_) (fun hc => ?_)
      · replace h := h.1 hc
        refine s_blk [(.iload_n 1, 1, 0, 0)] 51 [some (.ref (79)), some (.int (v1))] [.int (v1)] u2 [] (by decide +kernel) (by refine qt_iload_n (x := v1) rfl ?_; exact qt_z rfl rfl rfl rfl rfl) trivial ?_
        exact s_retI .int (by decide +kernel) rfl rfl h
      · replace h := h.2 hc
        refine s_blk [(.bipush 99, 2, 0, 0), (.goto 4, 3, 51, 0)] 51 [some (.ref (79)), some (.int (v1))] [.int (99)] u2 [] (by decide +kernel) (by refine qt_bipush qb_99 ?_; refine qt_goto ?_; exact qt_z rfl rfl rfl rfl rfl) trivial ?_
        exact s_retI .int (by decide +kernel) rfl rfl h
    · replace h := h.2 hc
      refine s_blk [(.iconst 0, 1, 0, 0), (.goto 15, 3, 51, 0)] 51 [some (.ref (79)), some (.int (v1))] [.int (0)] u2 [] (by decide +kernel) (by refine qt_iconst qc_0 ?_; refine qt_goto ?_; exact qt_z rfl rfl rfl rfl rfl) trivial ?_
      exact s_retI .int (by decide +kernel) rfl rfl h
  · replace h := h.2 hc
    refine s_blk [(.aload_n 0, 1, 0, 0), (.getfield 80, 3, 12, 41), (.iconst 0, 1, 0, 0), (.iaload, 1, 0, 0), (.aload_n 0, 1, 0, 0), (.getfield 80, 3, 12, 41), (.iconst 1, 1, 0, 0), (.iaload, 1, 0, 0), (.imul, 1, 0, 0), (.bipush 16, 2, 0, 0), (.idiv, 1, 0, 0), (.goto 7, 3, 30, 0), (.istore_n 1, 1, 0, 0), (.iload_n 1, 1, 0, 0)] 32 [some (.ref (79)), some (.int (((w.1 101 (Int32.toNatClampNeg 0)) * (w.1 101 (Int32.toNatClampNeg 1))) / 16))] [.int (((w.1 101 (Int32.toNatClampNeg 0)) * (w.1 101 (Int32.toNatClampNeg 1))) / 16)] w [q_id 116 12 79, q_id 116 14 101, vp_in 0 7, q_id 116 12 79, q_id 116 14 101, vp_in 1 7, ¬ (16 : Int32) = 0] (by decide +kernel) (by refine qt_aload_n (r := 79) rfl ?_; refine qt_getR (r := 101) rfl rfl ?_; refine qt_iconst qc_0 ?_; refine qt_iald ?_; refine qt_aload_n (r := 79) rfl ?_; refine qt_getR (r := 101) rfl rfl ?_; refine qt_iconst qc_1 ?_; refine qt_iald ?_; refine qt_imul ?_; refine qt_bipush qb_16 ?_; refine qt_idiv ?_; refine qt_goto ?_; refine qt_istore_n (L' := [some (.ref (79)), some (.int (((w.1 101 (Int32.toNatClampNeg 0)) * (w.1 101 (Int32.toNatClampNeg 1))) / 16))]) rfl ?_; refine qt_iload_n (x := ((w.1 101 (Int32.toNatClampNeg 0)) * (w.1 101 (Int32.toNatClampNeg 1))) / 16) rfl ?_; exact qt_z rfl rfl rfl rfl rfl) ⟨(q_id_of rfl), (q_id_of rfl), (q_vin rfl), (q_id_of rfl), (q_id_of rfl), (q_vin rfl), (by decide)⟩ ?_
    refine s_if (cd := .ge) (off := 7) 39 (by decide +kernel) (by decide) (fun hc => ?_) (fun hc => ?_)
    · replace h := h.1 hc
      refine s_blk [(.iload_n 1, 1, 0, 0), (.bipush 99, 2, 0, 0)] 42 [some (.ref (79)), some (.int (((w.1 101 (Int32.toNatClampNeg 0)) * (w.1 101 (Int32.toNatClampNeg 1))) / 16))] [.int (99), .int (((w.1 101 (Int32.toNatClampNeg 0)) * (w.1 101 (Int32.toNatClampNeg 1))) / 16)] w [] (by decide +kernel) (by refine qt_iload_n (x := ((w.1 101 (Int32.toNatClampNeg 0)) * (w.1 101 (Int32.toNatClampNeg 1))) / 16) rfl ?_; refine qt_bipush qb_99 ?_; exact qt_z rfl rfl rfl rfl rfl) trivial ?_
      refine s_icmp (cd := .le) (off := 8) 50 (by decide +kernel) (by decide) (fun hc => ?_) (fun hc => ?_)
      · replace h := h.1 hc
        refine s_blk [(.iload_n 1, 1, 0, 0)] 51 [some (.ref (79)), some (.int (((w.1 101 (Int32.toNatClampNeg 0)) * (w.1 101 (Int32.toNatClampNeg 1))) / 16))] [.int (((w.1 101 (Int32.toNatClampNeg 0)) * (w.1 101 (Int32.toNatClampNeg 1))) / 16)] w [] (by decide +kernel) (by refine qt_iload_n (x := ((w.1 101 (Int32.toNatClampNeg 0)) * (w.1 101 (Int32.toNatClampNeg 1))) / 16) rfl ?_; exact qt_z rfl rfl rfl rfl rfl) trivial ?_
        exact s_retI .int (by decide +kernel) rfl rfl h
      · replace h := h.2 hc
        refine s_blk [(.bipush 99, 2, 0, 0), (.goto 4, 3, 51, 0)] 51 [some (.ref (79)), some (.int (((w.1 101 (Int32.toNatClampNeg 0)) * (w.1 101 (Int32.toNatClampNeg 1))) / 16))] [.int (99)] w [] (by decide +kernel) (by refine qt_bipush qb_99 ?_; refine qt_goto ?_; exact qt_z rfl rfl rfl rfl rfl) trivial ?_
        exact s_retI .int (by decide +kernel) rfl rfl h
    · replace h := h.2 hc
      refine s_blk [(.iconst 0, 1, 0, 0), (.goto 15, 3, 51, 0)] 51 [some (.ref (79)), some (.int (((w.1 101 (Int32.toNatClampNeg 0)) * (w.1 101 (Int32.toNatClampNeg 1))) / 16))] [.int (0)] w [] (by decide +kernel) (by refine qt_iconst qc_0 ?_; refine qt_goto ?_; exact qt_z rfl rfl rfl rfl rfl) trivial ?_
      exact s_retI .int (by decide +kernel) rfl rfl h
theorem eX12_growsNow {d : Nat}  {w : q_Sm} {Q : s_Po} {X : s_Xo} (h : vX12_growsNow_0 d  w Q X) : s_Ev (d + 1) 0 mX12_growsNow w [.ref (79)] Q X := s_of (by decide) rfl (Nat.le_of_ble_eq_true rfl) (xX12_growsNow_0 h)
def vX12_tellsStep_0 (d : Nat) (x1 : Int32) (x2 : Int32) (x3 : Int32) (w : q_Sm) (Q : s_Po) (X : s_Xo) : Prop := s_EvI d 0 mX12_fine w [.ref (79)] (fun v1 u2 => ((¬ v1 = 0) → (vp_in (u2.1 79 44) 150) ∧ ∀ w_3 : q_Sm, w_3 = q_wI u2 102 (Int32.toNatClampNeg (u2.1 79 44)) x1 → (vp_in ((w_3.1 79 44) + 1) 150) ∧ ∀ w_4 : q_Sm, w_4 = q_wI w_3 102 (Int32.toNatClampNeg ((w_3.1 79 44) + 1)) x2 → (vp_in ((w_4.1 79 44) + 2) 150) ∧ ∀ w_5 : q_Sm, w_5 = q_wI w_4 102 (Int32.toNatClampNeg ((w_4.1 79 44) + 2)) x3 → ∀ w_6 : q_Sm, w_6 = q_wI w_5 79 44 ((w_5.1 79 44) + 3) → Q none w_6) ∧ (¬ (¬ v1 = 0) → Q none u2)) X
theorem xX12_tellsStep_0 {d : Nat} {x1 : Int32} {x2 : Int32} {x3 : Int32} {w : q_Sm} {Q : s_Po} {X : s_Xo} (h : vX12_tellsStep_0 d x1 x2 x3 w Q X) : s_Ex (d + 1) 0 mX12_tellsStep 0 [some (.ref (79)), some (.int (x1)), some (.int (x2)), some (.int (x3))] [] w Q X := by
  unfold vX12_tellsStep_0 at h
  refine s_blk [(.aload_n 0, 1, 0, 0)] 1 [some (.ref (79)), some (.int (x1)), some (.int (x2)), some (.int (x3))] [.ref (79)] w [] (by decide +kernel) (by refine qt_aload_n (r := 79) rfl ?_; exact qt_z rfl rfl rfl rfl rfl) trivial ?_
  refine s_callV (a := 0) (a' := 0) (As := []) (id := 79) (st := []) kX12_fine l_12_164 (by decide +kernel) (q_id_of rfl) rfl (Nat.le_of_ble_eq_true rfl) (s_mono h (s_I_of (fun v1 u2 h => ?_)) (fun _ _ h9 => h9))
  show s_Ex (d + 1) 0 mX12_tellsStep 4 [some (.ref (79)), some (.int (x1)), some (.int (x2)), some (.int (x3))] [.int (v1)] u2 Q X
  refine s_if (cd := .ne) (off := 4) 8 (by decide +kernel) (by decide) (fun hc => ?_) (fun hc => ?_)
  · replace h := h.1 hc
    obtain ⟨ho7, h⟩ := h
    replace h := h _ rfl
    obtain ⟨ho8, h⟩ := h
    replace h := h _ rfl
    obtain ⟨ho9, h⟩ := h
    replace h := h _ rfl
    replace h := h _ rfl
    refine s_blk [(.aload_n 0, 1, 0, 0), (.getfield 83, 3, 12, 42), (.aload_n 0, 1, 0, 0), (.getfield 351, 3, 12, 44), (.iload_n 1, 1, 0, 0), (.iastore, 1, 0, 0), (.aload_n 0, 1, 0, 0), (.getfield 83, 3, 12, 42), (.aload_n 0, 1, 0, 0), (.getfield 351, 3, 12, 44), (.iconst 1, 1, 0, 0), (.iadd, 1, 0, 0), (.iload_n 2, 1, 0, 0), (.iastore, 1, 0, 0), (.aload_n 0, 1, 0, 0), (.getfield 83, 3, 12, 42), (.aload_n 0, 1, 0, 0), (.getfield 351, 3, 12, 44), (.iconst 2, 1, 0, 0), (.iadd, 1, 0, 0), (.iload_n 3, 1, 0, 0), (.iastore, 1, 0, 0), (.aload_n 0, 1, 0, 0), (.dup, 1, 0, 0), (.getfield 351, 3, 12, 44), (.iconst 3, 1, 0, 0), (.iadd, 1, 0, 0), (.putfield 351, 3, 12, 44)] 52 [some (.ref (79)), some (.int (x1)), some (.int (x2)), some (.int (x3))] [] (q_wI (q_wI (q_wI (q_wI u2 102 (Int32.toNatClampNeg (u2.1 79 44)) x1) 102 (Int32.toNatClampNeg (((q_wI u2 102 (Int32.toNatClampNeg (u2.1 79 44)) x1).1 79 44) + 1)) x2) 102 (Int32.toNatClampNeg (((q_wI (q_wI u2 102 (Int32.toNatClampNeg (u2.1 79 44)) x1) 102 (Int32.toNatClampNeg (((q_wI u2 102 (Int32.toNatClampNeg (u2.1 79 44)) x1).1 79 44) + 1)) x2).1 79 44) + 2)) x3) 79 44 (((q_wI (q_wI (q_wI u2 102 (Int32.toNatClampNeg (u2.1 79 44)) x1) 102 (Int32.toNatClampNeg (((q_wI u2 102 (Int32.toNatClampNeg (u2.1 79 44)) x1).1 79 44) + 1)) x2) 102 (Int32.toNatClampNeg (((q_wI (q_wI u2 102 (Int32.toNatClampNeg (u2.1 79 44)) x1) 102 (Int32.toNatClampNeg (((q_wI u2 102 (Int32.toNatClampNeg (u2.1 79 44)) x1).1 79 44) + 1)) x2).1 79 44) + 2)) x3).1 79 44) + 3)) [q_id 116 12 79, q_id 116 12 79, q_id 116 14 102, vp_in (u2.1 79 44) 150, q_id 116 12 79, q_id 116 12 79, q_id 116 14 102, vp_in (((q_wI u2 102 (Int32.toNatClampNeg (u2.1 79 44)) x1).1 79 44) + 1) 150, q_id 116 12 79, q_id 116 12 79, q_id 116 14 102, vp_in (((q_wI (q_wI u2 102 (Int32.toNatClampNeg (u2.1 79 44)) x1) 102 (Int32.toNatClampNeg (((q_wI u2 102 (Int32.toNatClampNeg (u2.1 79 44)) x1).1 79 44) + 1)) x2).1 79 44) + 2) 150, q_id 116 12 79, q_id 116 12 79] (by decide +kernel) (by refine qt_aload_n (r := 79) rfl ?_; refine qt_getR (r := 102) rfl rfl ?_; refine qt_aload_n (r := 79) rfl ?_; refine qt_getI rfl ?_; refine qt_iload_n (x := x1) rfl ?_; refine qt_iast ?_; refine qt_aload_n (r := 79) rfl ?_; refine qt_getR (r := 102) rfl rfl ?_; refine qt_aload_n (r := 79) rfl ?_; refine qt_getI rfl ?_; refine qt_iconst qc_1 ?_; refine qt_iadd ?_; refine qt_iload_n (x := x2) rfl ?_; refine qt_iast ?_; refine qt_aload_n (r := 79) rfl ?_; refine qt_getR (r := 102) rfl rfl ?_; refine qt_aload_n (r := 79) rfl ?_; refine qt_getI rfl ?_; refine qt_iconst qc_2 ?_; refine qt_iadd ?_; refine qt_iload_n (x := x3) rfl ?_; refine qt_iast ?_; refine qt_aload_n (r := 79) rfl ?_; refine qt_dupR ?_; refine qt_getI rfl ?_; refine qt_iconst qc_3 ?_; refine qt_iadd ?_; refine qt_putI rfl ?_; exact qt_z rfl rfl rfl rfl rfl) ⟨(q_id_of rfl), (q_id_of rfl), (q_id_of rfl), ho7, (q_id_of rfl), (q_id_of rfl), (q_id_of rfl), ho8, (q_id_of rfl), (q_id_of rfl), (q_id_of rfl), ho9, (q_id_of rfl), (q_id_of rfl)⟩ ?_
    exact s_retV (by decide +kernel) rfl h
  · replace h := h.2 hc
    exact s_retV (by decide +kernel) rfl h
theorem eX12_tellsStep {d : Nat} {x1 : Int32} {x2 : Int32} {x3 : Int32} {w : q_Sm} {Q : s_Po} {X : s_Xo} (h : vX12_tellsStep_0 d x1 x2 x3 w Q X) : s_Ev (d + 1) 0 mX12_tellsStep w [.ref (79), .int (x1), .int (x2), .int (x3)] Q X := s_of (by decide) rfl (Nat.le_of_ble_eq_true rfl) (xX12_tellsStep_0 h)
