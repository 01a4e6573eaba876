def vX12_owedAll_0 (d : Nat)  (w : q_Sm) (Q : s_Po) (X : s_Xo) : Prop := s_Ex (d + 1) 0 mX12_owedAll 4 [some (.ref (79)), some (.int (0)), some (.int (0))] [] w Q X
def vX12_owedAll_4 (d : Nat) (x1 : Int32) (x2 : Int32) (w : q_Sm) (Q : s_Po) (X : s_Xo) : Prop := (((w.1 79 30) ≤ x2) → Q (some (.int (x1))) w) ∧ (¬ ((w.1 79 30) ≤ x2) → (vp_in (0 + x2) 63) ∧ s_Ex (d + 1) 0 mX12_owedAll 4 [some (.ref (79)), some (.int (x1 + (w.1 105 (Int32.toNatClampNeg (0 + x2))))), some (.int (x2 + 1))] [] w Q X)
theorem xX12_owedAll_0 {d : Nat}  {w : q_Sm} {Q : s_Po} {X : s_Xo} (h : vX12_owedAll_0 d  w Q X) : s_Ex (d + 1) 0 mX12_owedAll 0 [some (.ref (79)), none, none] [] w Q X := by
  unfold vX12_owedAll_0 at h
  refine s_blk [(.iconst 0, 1, 0, 0), (.istore_n 1, 1, 0, 0), (.iconst 0, 1, 0, 0), (.istore_n 2, 1, 0, 0)] 4 [some (.ref (79)), some (.int (0)), some (.int (0))] [] w [] (by decide +kernel) (by refine qt_iconst qc_0 ?_; refine qt_istore_n (L' := [some (.ref (79)), some (.int (0)), none]) rfl ?_; refine qt_iconst qc_0 ?_; refine qt_istore_n (L' := [some (.ref (79)), some (.int (0)), some (.int (0))]) rfl ?_; exact qt_z rfl rfl rfl rfl rfl) trivial ?_
  exact h
theorem xX12_owedAll_4 {d : Nat} {x1 : Int32} {x2 : Int32} {w : q_Sm} {Q : s_Po} {X : s_Xo} (h : vX12_owedAll_4 d x1 x2 w Q X) : s_Ex (d + 1) 0 mX12_owedAll 4 [some (.ref (79)), some (.int (x1)), some (.int (x2))] [] w Q X := by
  unfold vX12_owedAll_4 at h
  refine s_blk [(.iload_n 2, 1, 0, 0), (.aload_n 0, 1, 0, 0), (.getfield 196, 3, 12, 30)] 9 [some (.ref (79)), some (.int (x1)), some (.int (x2))] [.int (w.1 79 30), .int (x2)] w [q_id 116 12 79] (by decide +kernel) (by refine qt_iload_n (x := x2) rfl ?_; refine qt_aload_n (r := 79) rfl ?_; refine qt_getI rfl rfl ?_; exact qt_z rfl rfl rfl rfl rfl) (q_id_of rfl) ?_
  refine s_icmp (cd := .ge) (off := 20) 29 (by decide +kernel) (by decide) (fun hc => ?_) (fun hc => ?_)
  · replace h := h.1 hc
    refine s_blk [(.iload_n 1, 1, 0, 0)] 30 [some (.ref (79)), some (.int (x1)), some (.int (x2))] [.int (x1)] w [] (by decide +kernel) (by refine qt_iload_n (x := x1) rfl ?_; exact qt_z rfl rfl rfl rfl rfl) trivial ?_
    exact s_retI .int (by decide +kernel) rfl rfl h
  · replace h := h.2 hc
    obtain ⟨ho1, h⟩ := h
    refine s_blk [(.iload_n 1, 1, 0, 0), (.aload_n 0, 1, 0, 0), (.getfield 92, 3, 12, 51), (.iconst 0, 1, 0, 0), (.iload_n 2, 1, 0, 0), (.iadd, 1, 0, 0), (.iaload, 1, 0, 0), (.iadd, 1, 0, 0), (.istore_n 1, 1, 0, 0), (.iinc 2 1, 3, 0, 0), (.goto (-22), 3, 4, 0)] 4 [some (.ref (79)), some (.int (x1 + (w.1 105 (Int32.toNatClampNeg (0 + x2))))), some (.int (x2 + 1))] [] w [q_id 116 12 79, q_id 116 14 105, vp_in (0 + x2) 63] (by decide +kernel) (by refine qt_iload_n (x := x1) rfl ?_; refine qt_aload_n (r := 79) rfl ?_; refine qt_getR (r := 105) rfl rfl rfl ?_; refine qt_iconst qc_0 ?_; refine qt_iload_n (x := x2) rfl ?_; refine qt_iadd ?_; refine qt_iald ?_; refine qt_iadd ?_; refine qt_istore_n (L' := [some (.ref (79)), some (.int (x1 + (w.1 105 (Int32.toNatClampNeg (0 + x2))))), some (.int (x2))]) rfl ?_; refine qt_iinc (x := x2) (L' := [some (.ref (79)), some (.int (x1 + (w.1 105 (Int32.toNatClampNeg (0 + x2))))), some (.int (x2 + 1))]) rfl qc_1 rfl ?_; refine qt_goto ?_; exact qt_z rfl rfl rfl rfl rfl) ⟨(q_id_of rfl), (q_id_of rfl), ho1⟩ ?_
    exact h
theorem eX12_owedAll {d : Nat}  {w : q_Sm} {Q : s_Po} {X : s_Xo} (h : vX12_owedAll_0 d  w Q X) : s_Ev (d + 1) 0 mX12_owedAll w [.ref (79)] Q X := s_of (by decide +kernel) rfl (Nat.le_of_ble_eq_true rfl) (xX12_owedAll_0 h)
def vX12_lateAll_0 (d : Nat)  (w : q_Sm) (Q : s_Po) (X : s_Xo) : Prop := s_Ex (d + 1) 0 mX12_lateAll 4 [some (.ref (79)), some (.int (0)), some (.int (0))] [] w Q X
def vX12_lateAll_4 (d : Nat) (x1 : Int32) (x2 : Int32) (w : q_Sm) (Q : s_Po) (X : s_Xo) : Prop := (((w.1 79 30) ≤ x2) → Q (some (.int (x1))) w) ∧ (¬ ((w.1 79 30) ≤ x2) → (vp_in (20 + x2) 63) ∧ s_Ex (d + 1) 0 mX12_lateAll 4 [some (.ref (79)), some (.int (x1 + (w.1 105 (Int32.toNatClampNeg (20 + x2))))), some (.int (x2 + 1))] [] w Q X)
theorem xX12_lateAll_0 {d : Nat}  {w : q_Sm} {Q : s_Po} {X : s_Xo} (h : vX12_lateAll_0 d  w Q X) : s_Ex (d + 1) 0 mX12_lateAll 0 [some (.ref (79)), none, none] [] w Q X := by
  unfold vX12_lateAll_0 at h
  refine s_blk [(.iconst 0, 1, 0, 0), (.istore_n 1, 1, 0, 0), (.iconst 0, 1, 0, 0), (.istore_n 2, 1, 0, 0)] 4 [some (.ref (79)), some (.int (0)), some (.int (0))] [] w [] (by decide +kernel) (by refine qt_iconst qc_0 ?_; refine qt_istore_n (L' := [some (.ref (79)), some (.int (0)), none]) rfl ?_; refine qt_iconst qc_0 ?_; refine qt_istore_n (L' := [some (.ref (79)), some (.int (0)), some (.int (0))]) rfl ?_; exact qt_z rfl rfl rfl rfl rfl) trivial ?_
  exact h
theorem xX12_lateAll_4 {d : Nat} {x1 : Int32} {x2 : Int32} {w : q_Sm} {Q : s_Po} {X : s_Xo} (h : vX12_lateAll_4 d x1 x2 w Q X) : s_Ex (d + 1) 0 mX12_lateAll 4 [some (.ref (79)), some (.int (x1)), some (.int (x2))] [] w Q X := by
  unfold vX12_lateAll_4 at h
  refine s_blk [(.iload_n 2, 1, 0, 0), (.aload_n 0, 1, 0, 0), (.getfield 196, 3, 12, 30)] 9 [some (.ref (79)), some (.int (x1)), some (.int (x2))] [.int (w.1 79 30), .int (x2)] w [q_id 116 12 79] (by decide +kernel) (by refine qt_iload_n (x := x2) rfl ?_; refine qt_aload_n (r := 79) rfl ?_; refine qt_getI rfl rfl ?_; exact qt_z rfl rfl rfl rfl rfl) (q_id_of rfl) ?_
  refine s_icmp (cd := .ge) (off := 21) 30 (by decide +kernel) (by decide) (fun hc => ?_) (fun hc => ?_)
  · replace h := h.1 hc
    refine s_blk [(.iload_n 1, 1, 0, 0)] 31 [some (.ref (79)), some (.int (x1)), some (.int (x2))] [.int (x1)] w [] (by decide +kernel) (by refine qt_iload_n (x := x1) rfl ?_; exact qt_z rfl rfl rfl rfl rfl) trivial ?_
    exact s_retI .int (by decide +kernel) rfl rfl h
  · replace h := h.2 hc
    obtain ⟨ho1, h⟩ := h
    refine s_blk [(.iload_n 1, 1, 0, 0), (.aload_n 0, 1, 0, 0), (.getfield 92, 3, 12, 51), (.bipush 20, 2, 0, 0), (.iload_n 2, 1, 0, 0), (.iadd, 1, 0, 0), (.iaload, 1, 0, 0), (.iadd, 1, 0, 0), (.istore_n 1, 1, 0, 0), (.iinc 2 1, 3, 0, 0), (.goto (-23), 3, 4, 0)] 4 [some (.ref (79)), some (.int (x1 + (w.1 105 (Int32.toNatClampNeg (20 + x2))))), some (.int (x2 + 1))] [] w [q_id 116 12 79, q_id 116 14 105, vp_in (20 + x2) 63] (by decide +kernel) (by refine qt_iload_n (x := x1) rfl ?_; refine qt_aload_n (r := 79) rfl ?_; refine qt_getR (r := 105) rfl rfl rfl ?_; refine qt_bipush qb_20 ?_; refine qt_iload_n (x := x2) rfl ?_; refine qt_iadd ?_; refine qt_iald ?_; refine qt_iadd ?_; refine qt_istore_n (L' := [some (.ref (79)), some (.int (x1 + (w.1 105 (Int32.toNatClampNeg (20 + x2))))), some (.int (x2))]) rfl ?_; refine qt_iinc (x := x2) (L' := [some (.ref (79)), some (.int (x1 + (w.1 105 (Int32.toNatClampNeg (20 + x2))))), some (.int (x2 + 1))]) rfl qc_1 rfl ?_; refine qt_goto ?_; exact qt_z rfl rfl rfl rfl rfl) ⟨(q_id_of rfl), (q_id_of rfl), ho1⟩ ?_
    exact h
theorem eX12_lateAll {d : Nat}  {w : q_Sm} {Q : s_Po} {X : s_Xo} (h : vX12_lateAll_0 d  w Q X) : s_Ev (d + 1) 0 mX12_lateAll w [.ref (79)] Q X := s_of (by decide +kernel) rfl (Nat.le_of_ble_eq_true rfl) (xX12_lateAll_0 h)
def vX12_book_0 (d : Nat) (x1 : Int32) (w : q_Sm) (Q : s_Po) (X : s_Xo) : Prop := ∀ w_1 : q_Sm, w_1 = q_wI w 79 0 0 → ((x1 < 0) → s_EvI d 0 mX12_may w_1 [.ref (79), .int (0), .int (1), .int (1)] (fun v2 u3 => ((¬ v2 = 0) → s_EvV d 0 mX12_begins u3 [.ref (79), .int (x1)] (fun u5 => s_Ex (d + 1) 0 mX12_book 46 [some (.ref (79)), none, some (.int (0)), none, none, none, none] [] u5 Q X) X) ∧ (¬ (¬ v2 = 0) → Q (some (.int (0))) u3)) X) ∧ (¬ (x1 < 0) → (((w_1.1 79 2) < x1) → s_EvI d 0 mX12_may w_1 [.ref (79), .int (0), .int (1), .int (1)] (fun v6 u7 => ((¬ v6 = 0) → s_EvV d 0 mX12_begins u7 [.ref (79), .int (x1)] (fun u9 => s_Ex (d + 1) 0 mX12_book 46 [some (.ref (79)), none, some (.int (0)), none, none, none, none] [] u9 Q X) X) ∧ (¬ (¬ v6 = 0) → Q (some (.int (0))) u7)) X) ∧ (¬ ((w_1.1 79 2) < x1) → ((100 < x1) → s_EvI d 0 mX12_may w_1 [.ref (79), .int (0), .int (1), .int (1)] (fun v10 u11 => ((¬ v10 = 0) → s_EvV d 0 mX12_begins u11 [.ref (79), .int (x1)] (fun u13 => s_Ex (d + 1) 0 mX12_book 46 [some (.ref (79)), none, some (.int (0)), none, none, none, none] [] u13 Q X) X) ∧ (¬ (¬ v10 = 0) → Q (some (.int (0))) u11)) X) ∧ (¬ (100 < x1) → s_EvI d 0 mX12_may w_1 [.ref (79), .int (1), .int (1), .int (1)] (fun v14 u15 => ((¬ v14 = 0) → s_EvV d 0 mX12_begins u15 [.ref (79), .int (x1)] (fun u17 => s_Ex (d + 1) 0 mX12_book 46 [some (.ref (79)), none, some (.int (0)), none, none, none, none] [] u17 Q X) X) ∧ (¬ (¬ v14 = 0) → Q (some (.int (0))) u15)) X)))
def vX12_book_46 (d : Nat) (x2 : Int32) (w : q_Sm) (Q : s_Po) (X : s_Xo) : Prop := s_EvI d 0 mX12_fine w [.ref (79)] (fun v18 u19 => ((v18 = 0) → s_Ex (d + 1) 0 mX12_book 164 [some (.ref (79)), none, some (.int (x2)), none, none, none, none] [] u19 Q X) ∧ (¬ (v18 = 0) → s_EvI d 0 mX12_isMore u19 [.ref (79)] (fun v20 u21 => ((v20 = 0) → s_Ex (d + 1) 0 mX12_book 164 [some (.ref (79)), none, some (.int (x2)), none, none, none, none] [] u21 Q X) ∧ (¬ (v20 = 0) → s_EvI d 0 mX12_readNumber u21 [.ref (79), .int (0), .int (60)] (fun v22 u23 => s_EvI d 0 mX12_fine u23 [.ref (79)] (fun v24 u25 => ((v24 = 0) → s_Ex (d + 1) 0 mX12_book 93 [some (.ref (79)), none, some (.int (x2)), none, some (.int (v22)), none, none] [] u25 Q X) ∧ (¬ (v24 = 0) → ((¬ x2 = 10) → s_Ex (d + 1) 0 mX12_book 93 [some (.ref (79)), none, some (.int (x2)), none, some (.int (v22)), none, none] [] u25 Q X) ∧ (¬ (¬ x2 = 10) → s_EvV d 0 mX12_wrong u25 [.ref (79), .int (3), .int (u21.1 79 4)] (fun u27 => s_Ex (d + 1) 0 mX12_book 93 [some (.ref (79)), none, some (.int (x2)), none, some (.int (v22)), none, none] [] u27 Q X) X))) X) X)) X)) X
def vX12_book_164 (d : Nat) (x2 : Int32) (w : q_Sm) (Q : s_Po) (X : s_Xo) : Prop := s_EvI d 0 mX12_result w [.ref (79), .int (x2)] (fun v28 u29 => (((u29.1 79 5) = (-1)) → ∀ w_30 : q_Sm, w_30 = q_wI u29 79 55 x2 → s_EvV d 0 mX12_copies w_30 [.ref (79), .ref (107), .ref (108), .int (3 * x2)] (fun u32 => Q (some (.int (v28))) u32) X) ∧ (¬ ((u29.1 79 5) = (-1)) → Q (some (.int (v28))) u29)) X
def vX12_book_93 (d : Nat) (x2 : Int32) (x4 : Int32) (w : q_Sm) (Q : s_Po) (X : s_Xo) : Prop := s_EvI d 0 mX12_readColour w [.ref (79)] (fun v33 u34 => s_EvI d 0 mX12_readNumber u34 [.ref (79), .int (0), .int (40)] (fun v35 u36 => s_EvV d 0 mX12_sign u36 [.ref (79), .int (59)] (fun u38 => s_EvI d 0 mX12_fine u38 [.ref (79)] (fun v39 u40 => ((¬ v39 = 0) → (vp_in (3 * x2) 30) ∧ ∀ w_41 : q_Sm, w_41 = q_wI u40 107 (Int32.toNatClampNeg (3 * x2)) x4 → (vp_in ((3 * x2) + 1) 30) ∧ ∀ w_42 : q_Sm, w_42 = q_wI w_41 107 (Int32.toNatClampNeg ((3 * x2) + 1)) v33 → (vp_in ((3 * x2) + 2) 30) ∧ ∀ w_43 : q_Sm, w_43 = q_wI w_42 107 (Int32.toNatClampNeg ((3 * x2) + 2)) v35 → s_Ex (d + 1) 0 mX12_book 46 [some (.ref (79)), none, some (.int (x2 + 1)), none, none, none, none] [] w_43 Q X) ∧ (¬ (¬ v39 = 0) → s_Ex (d + 1) 0 mX12_book 164 [some (.ref (79)), none, some (.int (x2)), none, none, none, none] [] u40 Q X)) X) X) X) X
theorem xX12_book_0 {d : Nat} {x1 : Int32} {w : q_Sm} {Q : s_Po} {X : s_Xo} (h : vX12_book_0 d x1 w Q X) : s_Ex (d + 1) 0 mX12_book 0 [some (.ref (79)), some (.int (x1)), none, none, none, none, none] [] w Q X := by
  unfold vX12_book_0 at h
  replace h := h _ rfl
  refine s_blk [(.aload_n 0, 1, 0, 0), (.iconst 0, 1, 0, 0), (.putfield 3, 3, 12, 0), (.aload_n 0, 1, 0, 0), (.iload_n 1, 1, 0, 0)] 7 [some (.ref (79)), some (.int (x1)), none, none, none, none, none] [.int (x1), .ref (79)] (q_wI w 79 0 0) [q_id 116 12 79] (by decide +kernel) (by refine qt_aload_n (r := 79) rfl ?_; refine qt_iconst qc_0 ?_; refine qt_putI rfl ?_; refine qt_aload_n (r := 79) rfl ?_; refine qt_iload_n (x := x1) rfl ?_; exact qt_z rfl rfl rfl rfl rfl) (q_id_of rfl) ?_
  refine s_if (cd := .lt) (off := 21) 28 (by decide +kernel) (by decide) (fun hc => ?_) (fun hc => ?_)
  · replace h := h.1 hc
    refine s_blk [(.iconst 0, 1, 0, 0), (.iconst 1, 1, 0, 0), (.iconst 1, 1, 0, 0)] 31 [some (.ref (79)), some (.int (x1)), none, none, none, none, none] [.int (1), .int (1), .int (0), .ref (79)] (q_wI w 79 0 0) [] (by decide +kernel) (by refine qt_iconst qc_0 ?_; refine qt_iconst qc_1 ?_; refine qt_iconst qc_1 ?_; exact qt_z rfl rfl rfl rfl rfl) trivial ?_
    refine s_callV (a := 0) (a' := 0) (As := [.int (0), .int (1), .int (1)]) (id := 79) (st := []) kX12_may l_12_270 (by decide +kernel) (q_id_of rfl) rfl (Nat.le_of_ble_eq_true rfl) (s_mono h (s_I_of (fun v2 u3 h => ?_)) (fun _ _ h9 => h9))
    show s_Ex (d + 1) 0 mX12_book 34 [some (.ref (79)), some (.int (x1)), none, none, none, none, none] [.int (v2)] u3 Q X
    refine s_if (cd := .ne) (off := 5) 39 (by decide +kernel) (by decide) (fun hc => ?_) (fun hc => ?_)
    · replace h := h.1 hc
      refine s_blk [(.aload_n 0, 1, 0, 0), (.iload_n 1, 1, 0, 0)] 41 [some (.ref (79)), some (.int (x1)), none, none, none, none, none] [.int (x1), .ref (79)] u3 [] (by decide +kernel) (by refine qt_aload_n (r := 79) rfl ?_; refine qt_iload_n (x := x1) rfl ?_; exact qt_z rfl rfl rfl rfl rfl) trivial ?_
      refine s_callV (a := 0) (a' := 0) (As := [.int (x1)]) (id := 79) (st := []) kX12_begins l_12_274 (by decide +kernel) (q_id_of rfl) rfl (Nat.le_of_ble_eq_true rfl) (s_mono h (s_V_of (fun u5 h => ?_)) (fun _ _ h9 => h9))
      show s_Ex (d + 1) 0 mX12_book 44 [some (.ref (79)), some (.int (x1)), none, none, none, none, none] [] u5 Q X
      refine s_blk [(.iconst 0, 1, 0, 0), (.istore_n 2, 1, 0, 0), (.nop, 0, 1, 0)] 46 [some (.ref (79)), none, some (.int (0)), none, none, none, none] [] u5 [] (by decide +kernel) (by refine qt_iconst qc_0 ?_; refine qt_istore_n (L' := [some (.ref (79)), some (.int (x1)), some (.int (0)), none, none, none, none]) rfl ?_; refine qt_nop (L' := [some (.ref (79)), none, some (.int (0)), none, none, none, none]) rfl ?_; exact qt_z rfl rfl rfl rfl rfl) trivial ?_
      exact h
    · replace h := h.2 hc
      refine s_blk [(.iconst 0, 1, 0, 0)] 38 [some (.ref (79)), some (.int (x1)), none, none, none, none, none] [.int (0)] u3 [] (by decide +kernel) (by refine qt_iconst qc_0 ?_; exact qt_z rfl rfl rfl rfl rfl) trivial ?_
      exact s_retI .int (by decide +kernel) rfl rfl h
  · replace h := h.2 hc
    refine s_blk [(.iload_n 1, 1, 0, 0), (.aload_n 0, 1, 0, 0), (.getfield 132, 3, 12, 2)] 15 [some (.ref (79)), some (.int (x1)), none, none, none, none, none] [.int ((q_wI w 79 0 0).1 79 2), .int (x1), .ref (79)] (q_wI w 79 0 0) [q_id 116 12 79] (by decide +kernel) (by refine qt_iload_n (x := x1) rfl ?_; refine qt_aload_n (r := 79) rfl ?_; refine qt_getI rfl rfl ?_; exact qt_z rfl rfl rfl rfl rfl) (q_id_of rfl) ?_
    refine s_icmp (cd := .gt) (off := 13) 28 (by decide +kernel) (by decide) (fun hc => ?_) (fun hc => ?_)
    · replace h := h.1 hc
      refine s_blk [(.iconst 0, 1, 0, 0), (.iconst 1, 1, 0, 0), (.iconst 1, 1, 0, 0)] 31 [some (.ref (79)), some (.int (x1)), none, none, none, none, none] [.int (1), .int (1), .int (0), .ref (79)] (q_wI w 79 0 0) [] (by decide +kernel) (by refine qt_iconst qc_0 ?_; refine qt_iconst qc_1 ?_; refine qt_iconst qc_1 ?_; exact qt_z rfl rfl rfl rfl rfl) trivial ?_
      refine s_callV (a := 0) (a' := 0) (As := [.int (0), .int (1), .int (1)]) (id := 79) (st := []) kX12_may l_12_270 (by decide +kernel) (q_id_of rfl) rfl (Nat.le_of_ble_eq_true rfl) (s_mono h (s_I_of (fun v6 u7 h => ?_)) (fun _ _ h9 => h9))
      show s_Ex (d + 1) 0 mX12_book 34 [some (.ref (79)), some (.int (x1)), none, none, none, none, none] [.int (v6)] u7 Q X
      refine s_if (cd := .ne) (off := 5) 39 (by decide +kernel) (by decide) (fun hc => ?_) (fun hc => ?_)
      · replace h := h.1 hc
        refine s_blk [(.aload_n 0, 1, 0, 0), (.iload_n 1, 1, 0, 0)] 41 [some (.ref (79)), some (.int (x1)), none, none, none, none, none] [.int (x1), .ref (79)] u7 [] (by decide +kernel) (by refine qt_aload_n (r := 79) rfl ?_; refine qt_iload_n (x := x1) rfl ?_; exact qt_z rfl rfl rfl rfl rfl) trivial ?_
        refine s_callV (a := 0) (a' := 0) (As := [.int (x1)]) (id := 79) (st := []) kX12_begins l_12_274 (by decide +kernel) (q_id_of rfl) rfl (Nat.le_of_ble_eq_true rfl) (s_mono h (s_V_of (fun u9 h => ?_)) (fun _ _ h9 => h9))
        show s_Ex (d + 1) 0 mX12_book 44 [some (.ref (79)), some (.int (x1)), none, none, none, none, none] [] u9 Q X
        refine s_blk [(.iconst 0, 1, 0, 0), (.istore_n 2, 1, 0, 0), (.nop, 0, 1, 0)] 46 [some (.ref (79)), none, some (.int (0)), none, none, none, none] [] u9 [] (by decide +kernel) (by refine qt_iconst qc_0 ?_; refine qt_istore_n (L' := [some (.ref (79)), some (.int (x1)), some (.int (0)), none, none, none, none]) rfl ?_; refine qt_nop (L' := [some (.ref (79)), none, some (.int (0)), none, none, none, none]) rfl ?_; exact qt_z rfl rfl rfl rfl rfl) trivial ?_
        exact h
      · replace h := h.2 hc
        refine s_blk [(.iconst 0, 1, 0, 0)] 38 [some (.ref (79)), some (.int (x1)), none, none, none, none, none] [.int (0)] u7 [] (by decide +kernel) (by refine qt_iconst qc_0 ?_; exact qt_z rfl rfl rfl rfl rfl) trivial ?_
        exact s_retI .int (by decide +kernel) rfl rfl h
    · replace h := h.2 hc
      refine s_blk [(.iload_n 1, 1, 0, 0), (.bipush 100, 2, 0, 0)] 21 [some (.ref (79)), some (.int (x1)), none, none, none, none, none] [.int (100), .int (x1), .ref (79)] (q_wI w 79 0 0) [] (by decide +kernel) (by refine qt_iload_n (x := x1) rfl ?_; refine qt_bipush qb_100 ?_; exact qt_z rfl rfl rfl rfl rfl) trivial ?_
      refine s_icmp (cd := .gt) (off := 7) 28 (by decide +kernel) (by decide) (fun hc => ?_) (fun hc => ?_)
      · replace h := h.1 hc
        refine s_blk [(.iconst 0, 1, 0, 0), (.iconst 1, 1, 0, 0), (.iconst 1, 1, 0, 0)] 31 [some (.ref (79)), some (.int (x1)), none, none, none, none, none] [.int (1), .int (1), .int (0), .ref (79)] (q_wI w 79 0 0) [] (by decide +kernel) (by refine qt_iconst qc_0 ?_; refine qt_iconst qc_1 ?_; refine qt_iconst qc_1 ?_; exact qt_z rfl rfl rfl rfl rfl) trivial ?_
        refine s_callV (a := 0) (a' := 0) (As := [.int (0), .int (1), .int (1)]) (id := 79) (st := []) kX12_may l_12_270 (by decide +kernel) (q_id_of rfl) rfl (Nat.le_of_ble_eq_true rfl) (s_mono h (s_I_of (fun v10 u11 h => ?_)) (fun _ _ h9 => h9))
        show s_Ex (d + 1) 0 mX12_book 34 [some (.ref (79)), some (.int (x1)), none, none, none, none, none] [.int (v10)] u11 Q X
        refine s_if (cd := .ne) (off := 5) 39 (by decide +kernel) (by decide) (fun hc => ?_) (fun hc => ?_)
        · replace h := h.1 hc
          refine s_blk [(.aload_n 0, 1, 0, 0), (.iload_n 1, 1, 0, 0)] 41 [some (.ref (79)), some (.int (x1)), none, none, none, none, none] [.int (x1), .ref (79)] u11 [] (by decide +kernel) (by refine qt_aload_n (r := 79) rfl ?_; refine qt_iload_n (x := x1) rfl ?_; exact qt_z rfl rfl rfl rfl rfl) trivial ?_
          refine s_callV (a := 0) (a' := 0) (As := [.int (x1)]) (id := 79) (st := []) kX12_begins l_12_274 (by decide +kernel) (q_id_of rfl) rfl (Nat.le_of_ble_eq_true rfl) (s_mono h (s_V_of (fun u13 h => ?_)) (fun _ _ h9 => h9))
          show s_Ex (d + 1) 0 mX12_book 44 [some (.ref (79)), some (.int (x1)), none, none, none, none, none] [] u13 Q X
          refine s_blk [(.iconst 0, 1, 0, 0), (.istore_n 2, 1, 0, 0), (.nop, 0, 1, 0)] 46 [some (.ref (79)), none, some (.int (0)), none, none, none, none] [] u13 [] (by decide +kernel) (by refine qt_iconst qc_0 ?_; refine qt_istore_n (L' := [some (.ref (79)), some (.int (x1)), some (.int (0)), none, none, none, none]) rfl ?_; refine qt_nop (L' := [some (.ref (79)), none, some (.int (0)), none, none, none, none]) rfl ?_; exact qt_z rfl rfl rfl rfl rfl) trivial ?_
          exact h
        · replace h := h.2 hc
          refine s_blk [(.iconst 0, 1, 0, 0)] 38 [some (.ref (79)), some (.int (x1)), none, none, none, none, none] [.int (0)] u11 [] (by decide +kernel) (by refine qt_iconst qc_0 ?_; exact qt_z rfl rfl rfl rfl rfl) trivial ?_
          exact s_retI .int (by decide +kernel) rfl rfl h
      · replace h := h.2 hc
        refine s_blk [(.iconst 1, 1, 0, 0), (.goto 4, 3, 29, 0), (.iconst 1, 1, 0, 0), (.iconst 1, 1, 0, 0)] 31 [some (.ref (79)), some (.int (x1)), none, none, none, none, none] [.int (1), .int (1), .int (1), .ref (79)] (q_wI w 79 0 0) [] (by decide +kernel) (by refine qt_iconst qc_1 ?_; refine qt_goto ?_; refine qt_iconst qc_1 ?_; refine qt_iconst qc_1 ?_; exact qt_z rfl rfl rfl rfl rfl) trivial ?_
        refine s_callV (a := 0) (a' := 0) (As := [.int (1), .int (1), .int (1)]) (id := 79) (st := []) kX12_may l_12_270 (by decide +kernel) (q_id_of rfl) rfl (Nat.le_of_ble_eq_true rfl) (s_mono h (s_I_of (fun v14 u15 h => ?_)) (fun _ _ h9 => h9))
        show s_Ex (d + 1) 0 mX12_book 34 [some (.ref (79)), some (.int (x1)), none, none, none, none, none] [.int (v14)] u15 Q X
        refine s_if (cd := .ne) (off := 5) 39 (by decide +kernel) (by decide) (fun hc => ?_) (fun hc => ?_)
        · replace h := h.1 hc
          refine s_blk [(.aload_n 0, 1, 0, 0), (.iload_n 1, 1, 0, 0)] 41 [some (.ref (79)), some (.int (x1)), none, none, none, none, none] [.int (x1), .ref (79)] u15 [] (by decide +kernel) (by refine qt_aload_n (r := 79) rfl ?_; refine qt_iload_n (x := x1) rfl ?_; exact qt_z rfl rfl rfl rfl rfl) trivial ?_
          refine s_callV (a := 0) (a' := 0) (As := [.int (x1)]) (id := 79) (st := []) kX12_begins l_12_274 (by decide +kernel) (q_id_of rfl) rfl (Nat.le_of_ble_eq_true rfl) (s_mono h (s_V_of (fun u17 h => ?_)) (fun _ _ h9 => h9))
          show s_Ex (d + 1) 0 mX12_book 44 [some (.ref (79)), some (.int (x1)), none, none, none, none, none] [] u17 Q X
          refine s_blk [(.iconst 0, 1, 0, 0), (.istore_n 2, 1, 0, 0), (.nop, 0, 1, 0)] 46 [some (.ref (79)), none, some (.int (0)), none, none, none, none] [] u17 [] (by decide +kernel) (by refine qt_iconst qc_0 ?_; refine qt_istore_n (L' := [some (.ref (79)), some (.int (x1)), some (.int (0)), none, none, none, none]) rfl ?_; refine qt_nop (L' := [some (.ref (79)), none, some (.int (0)), none, none, none, none]) rfl ?_; exact qt_z rfl rfl rfl rfl rfl) trivial ?_
          exact h
        · replace h := h.2 hc
          refine s_blk [(.iconst 0, 1, 0, 0)] 38 [some (.ref (79)), some (.int (x1)), none, none, none, none, none] [.int (0)] u15 [] (by decide +kernel) (by refine qt_iconst qc_0 ?_; exact qt_z rfl rfl rfl rfl rfl) trivial ?_
          exact s_retI .int (by decide +kernel) rfl rfl h
theorem xX12_book_46 {d : Nat} {x2 : Int32} {w : q_Sm} {Q : s_Po} {X : s_Xo} (h : vX12_book_46 d x2 w Q X) : s_Ex (d + 1) 0 mX12_book 46 [some (.ref (79)), none, some (.int (x2)), none, none, none, none] [] w Q X := by
  unfold vX12_book_46 at h
  refine s_blk [(.aload_n 0, 1, 0, 0)] 47 [some (.ref (79)), none, some (.int (x2)), none, none, none, none] [.ref (79)] w [] (by decide +kernel) (by refine qt_aload_n (r := 79) rfl ?_; exact qt_z rfl rfl rfl rfl rfl) trivial ?_
  refine s_callV (a := 0) (a' := 0) (As := []) (id := 79) (st := []) kX12_fine l_12_164 (by decide +kernel) (q_id_of rfl) rfl (Nat.le_of_ble_eq_true rfl) (s_mono h (s_I_of (fun v18 u19 h => ?_)) (fun _ _ h9 => h9))
  show s_Ex (d + 1) 0 mX12_book 50 [some (.ref (79)), none, some (.int (x2)), none, none, none, none] [.int (v18)] u19 Q X
  refine s_if (cd := .eq) (off := 114) 164 (by decide +kernel) (by decide) (fun hc => ?_) (fun hc => ?_)
  · replace h := h.1 hc
    exact h
  · replace h := h.2 hc
    refine s_blk [(.aload_n 0, 1, 0, 0)] 54 [some (.ref (79)), none, some (.int (x2)), none, none, none, none] [.ref (79)] u19 [] (by decide +kernel) (by refine qt_aload_n (r := 79) rfl ?_; exact qt_z rfl rfl rfl rfl rfl) trivial ?_
    refine s_callV (a := 0) (a' := 0) (As := []) (id := 79) (st := []) kX12_isMore l_12_278 (by decide +kernel) (q_id_of rfl) rfl (Nat.le_of_ble_eq_true rfl) (s_mono h (s_I_of (fun v20 u21 h => ?_)) (fun _ _ h9 => h9))
    show s_Ex (d + 1) 0 mX12_book 57 [some (.ref (79)), none, some (.int (x2)), none, none, none, none] [.int (v20)] u21 Q X
    refine s_if (cd := .eq) (off := 107) 164 (by decide +kernel) (by decide) (fun hc => ?_) (fun hc => ?_)
    · replace h := h.1 hc
      exact h
    · replace h := h.2 hc
      refine s_blk [(.aload_n 0, 1, 0, 0), (.getfield 141, 3, 12, 4), (.istore_n 3, 1, 0, 0), (.aload_n 0, 1, 0, 0), (.iconst 0, 1, 0, 0), (.bipush 60, 2, 0, 0)] 69 [some (.ref (79)), none, some (.int (x2)), some (.int (u21.1 79 4)), none, none, none] [.int (60), .int (0), .ref (79)] u21 [q_id 116 12 79] (by decide +kernel) (by refine qt_aload_n (r := 79) rfl ?_; refine qt_getI rfl rfl ?_; refine qt_istore_n (L' := [some (.ref (79)), none, some (.int (x2)), some (.int (u21.1 79 4)), none, none, none]) rfl ?_; refine qt_aload_n (r := 79) rfl ?_; refine qt_iconst qc_0 ?_; refine qt_bipush qb_60 ?_; exact qt_z rfl rfl rfl rfl rfl) (q_id_of rfl) ?_
      refine s_callV (a := 0) (a' := 0) (As := [.int (0), .int (60)]) (id := 79) (st := []) kX12_readNumber l_12_254 (by decide +kernel) (q_id_of rfl) rfl (Nat.le_of_ble_eq_true rfl) (s_mono h (s_I_of (fun v22 u23 h => ?_)) (fun _ _ h9 => h9))
      show s_Ex (d + 1) 0 mX12_book 72 [some (.ref (79)), none, some (.int (x2)), some (.int (u21.1 79 4)), none, none, none] [.int (v22)] u23 Q X
      refine s_blk [(.istore 4, 2, 0, 0), (.aload_n 0, 1, 0, 0)] 75 [some (.ref (79)), none, some (.int (x2)), some (.int (u21.1 79 4)), some (.int (v22)), none, none] [.ref (79)] u23 [] (by decide +kernel) (by refine qt_istore (L' := [some (.ref (79)), none, some (.int (x2)), some (.int (u21.1 79 4)), some (.int (v22)), none, none]) rfl ?_; refine qt_aload_n (r := 79) rfl ?_; exact qt_z rfl rfl rfl rfl rfl) trivial ?_
      refine s_callV (a := 0) (a' := 0) (As := []) (id := 79) (st := []) kX12_fine l_12_164 (by decide +kernel) (q_id_of rfl) rfl (Nat.le_of_ble_eq_true rfl) (s_mono h (s_I_of (fun v24 u25 h => ?_)) (fun _ _ h9 => h9))
      show s_Ex (d + 1) 0 mX12_book 78 [some (.ref (79)), none, some (.int (x2)), some (.int (u21.1 79 4)), some (.int (v22)), none, none] [.int (v24)] u25 Q X
      refine s_if (cd := .eq) (off := 15) 93 (by decide +kernel) (by decide) (fun hc => ?_) (fun hc => ?_)
      · replace h := h.1 hc
        refine s_blk [(.nop, 0, 3, 0)] 93 [some (.ref (79)), none, some (.int (x2)), none, some (.int (v22)), none, none] [] u25 [] (by decide +kernel) (by refine qt_nop (L' := [some (.ref (79)), none, some (.int (x2)), none, some (.int (v22)), none, none]) rfl ?_; exact qt_z rfl rfl rfl rfl rfl) trivial ?_
        exact h
      · replace h := h.2 hc
        refine s_blk [(.iload_n 2, 1, 0, 0), (.bipush 10, 2, 0, 0)] 84 [some (.ref (79)), none, some (.int (x2)), some (.int (u21.1 79 4)), some (.int (v22)), none, none] [.int (10), .int (x2)] u25 [] (by decide +kernel) (by refine qt_iload_n (x := x2) rfl ?_; refine qt_bipush qb_10 ?_; exact qt_z rfl rfl rfl rfl rfl) trivial ?_
        refine s_icmp (cd := .ne) (off := 9) 93 (by decide +kernel) (by decide) (fun hc => ?_) (fun hc => ?_)
        · replace h := h.1 hc
          refine s_blk [(.nop, 0, 3, 0)] 93 [some (.ref (79)), none, some (.int (x2)), none, some (.int (v22)), none, none] [] u25 [] (by decide +kernel) (by refine qt_nop (L' := [some (.ref (79)), none, some (.int (x2)), none, some (.int (v22)), none, none]) rfl ?_; exact qt_z rfl rfl rfl rfl rfl) trivial ?_
          exact h
        · replace h := h.2 hc
          refine s_blk [(.aload_n 0, 1, 0, 0), (.iconst 3, 1, 0, 0), (.iload_n 3, 1, 0, 0)] 90 [some (.ref (79)), none, some (.int (x2)), some (.int (u21.1 79 4)), some (.int (v22)), none, none] [.int (u21.1 79 4), .int (3), .ref (79)] u25 [] (by decide +kernel) (by refine qt_aload_n (r := 79) rfl ?_; refine qt_iconst qc_3 ?_; refine qt_iload_n (x := u21.1 79 4) rfl ?_; exact qt_z rfl rfl rfl rfl rfl) trivial ?_
          refine s_callV (a := 0) (a' := 0) (As := [.int (3), .int (u21.1 79 4)]) (id := 79) (st := []) kX12_wrong l_12_171 (by decide +kernel) (q_id_of rfl) rfl (Nat.le_of_ble_eq_true rfl) (s_mono h (s_V_of (fun u27 h => ?_)) (fun _ _ h9 => h9))
          show s_Ex (d + 1) 0 mX12_book 93 [some (.ref (79)), none, some (.int (x2)), some (.int (u21.1 79 4)), some (.int (v22)), none, none] [] u27 Q X
          refine s_blk [(.nop, 0, 3, 0)] 93 [some (.ref (79)), none, some (.int (x2)), none, some (.int (v22)), none, none] [] u27 [] (by decide +kernel) (by refine qt_nop (L' := [some (.ref (79)), none, some (.int (x2)), none, some (.int (v22)), none, none]) rfl ?_; exact qt_z rfl rfl rfl rfl rfl) trivial ?_
          exact h
theorem xX12_book_164 {d : Nat} {x2 : Int32} {w : q_Sm} {Q : s_Po} {X : s_Xo} (h : vX12_book_164 d x2 w Q X) : s_Ex (d + 1) 0 mX12_book 164 [some (.ref (79)), none, some (.int (x2)), none, none, none, none] [] w Q X := by
  unfold vX12_book_164 at h
  refine s_blk [(.aload_n 0, 1, 0, 0), (.iload_n 2, 1, 0, 0)] 166 [some (.ref (79)), none, some (.int (x2)), none, none, none, none] [.int (x2), .ref (79)] w [] (by decide +kernel) (by refine qt_aload_n (r := 79) rfl ?_; refine qt_iload_n (x := x2) rfl ?_; exact qt_z rfl rfl rfl rfl rfl) trivial ?_
  refine s_callV (a := 0) (a' := 0) (As := [.int (x2)]) (id := 79) (st := []) kX12_result l_12_300 (by decide +kernel) (q_id_of rfl) rfl (Nat.le_of_ble_eq_true rfl) (s_mono h (s_I_of (fun v28 u29 h => ?_)) (fun _ _ h9 => h9))
  show s_Ex (d + 1) 0 mX12_book 169 [some (.ref (79)), none, some (.int (x2)), none, none, none, none] [.int (v28)] u29 Q X
  refine s_blk [(.istore_n 3, 1, 0, 0), (.aload_n 0, 1, 0, 0), (.getfield 135, 3, 12, 5), (.iconst (-1), 1, 0, 0)] 175 [some (.ref (79)), none, some (.int (x2)), some (.int (v28)), none, none, none] [.int (-1), .int (u29.1 79 5)] u29 [q_id 116 12 79] (by decide +kernel) (by refine qt_istore_n (L' := [some (.ref (79)), none, some (.int (x2)), some (.int (v28)), none, none, none]) rfl ?_; refine qt_aload_n (r := 79) rfl ?_; refine qt_getI rfl rfl ?_; refine qt_iconst qc_m1 ?_; exact qt_z rfl rfl rfl rfl rfl) (q_id_of rfl) ?_
  refine s_icmp (cd := .eq) (off := 5) 180 (by decide +kernel) (by decide) (fun hc => ?_) (fun hc => ?_)
  · replace h := h.1 hc
    replace h := h _ rfl
    refine s_blk [(.aload_n 0, 1, 0, 0), (.iload_n 2, 1, 0, 0), (.putfield 215, 3, 12, 55), (.aload_n 0, 1, 0, 0), (.aload_n 0, 1, 0, 0), (.getfield 98, 3, 12, 53), (.aload_n 0, 1, 0, 0), (.getfield 101, 3, 12, 54), (.iconst 3, 1, 0, 0), (.iload_n 2, 1, 0, 0), (.imul, 1, 0, 0)] 197 [some (.ref (79)), none, some (.int (x2)), some (.int (v28)), none, none, none] [.int (3 * x2), .ref (108), .ref (107), .ref (79)] (q_wI u29 79 55 x2) [q_id 116 12 79, q_id 116 12 79, q_id 116 12 79] (by decide +kernel) (by refine qt_aload_n (r := 79) rfl ?_; refine qt_iload_n (x := x2) rfl ?_; refine qt_putI rfl ?_; refine qt_aload_n (r := 79) rfl ?_; refine qt_aload_n (r := 79) rfl ?_; refine qt_getR (r := 107) rfl rfl rfl ?_; refine qt_aload_n (r := 79) rfl ?_; refine qt_getR (r := 108) rfl rfl rfl ?_; refine qt_iconst qc_3 ?_; refine qt_iload_n (x := x2) rfl ?_; refine qt_imul ?_; exact qt_z rfl rfl rfl rfl rfl) ⟨(q_id_of rfl), (q_id_of rfl), (q_id_of rfl)⟩ ?_
    refine s_callV (a := 0) (a' := 0) (As := [.ref (107), .ref (108), .int (3 * x2)]) (id := 79) (st := []) kX12_copies l_12_208 (by decide +kernel) (q_id_of rfl) rfl (Nat.le_of_ble_eq_true rfl) (s_mono h (s_V_of (fun u32 h => ?_)) (fun _ _ h9 => h9))
    show s_Ex (d + 1) 0 mX12_book 200 [some (.ref (79)), none, some (.int (x2)), some (.int (v28)), none, none, none] [] u32 Q X
    refine s_blk [(.iload_n 3, 1, 0, 0)] 201 [some (.ref (79)), none, some (.int (x2)), some (.int (v28)), none, none, none] [.int (v28)] u32 [] (by decide +kernel) (by refine qt_iload_n (x := v28) rfl ?_; exact qt_z rfl rfl rfl rfl rfl) trivial ?_
    exact s_retI .int (by decide +kernel) rfl rfl h
  · replace h := h.2 hc
    refine s_blk [(.iload_n 3, 1, 0, 0)] 179 [some (.ref (79)), none, some (.int (x2)), some (.int (v28)), none, none, none] [.int (v28)] u29 [] (by decide +kernel) (by refine qt_iload_n (x := v28) rfl ?_; exact qt_z rfl rfl rfl rfl rfl) trivial ?_
    exact s_retI .int (by decide +kernel) rfl rfl h
theorem xX12_book_93 {d : Nat} {x2 : Int32} {x4 : Int32} {w : q_Sm} {Q : s_Po} {X : s_Xo} (h : vX12_book_93 d x2 x4 w Q X) : s_Ex (d + 1) 0 mX12_book 93 [some (.ref (79)), none, some (.int (x2)), none, some (.int (x4)), none, none] [] w Q X := by
  unfold vX12_book_93 at h
  refine s_blk [(.aload_n 0, 1, 0, 0)] 94 [some (.ref (79)), none, some (.int (x2)), none, some (.int (x4)), none, none] [.ref (79)] w [] (by decide +kernel) (by refine qt_aload_n (r := 79) rfl ?_; exact qt_z rfl rfl rfl rfl rfl) trivial ?_
  refine s_callV (a := 0) (a' := 0) (As := []) (id := 79) (st := []) kX12_readColour l_12_257 (by decide +kernel) (q_id_of rfl) rfl (Nat.le_of_ble_eq_true rfl) (s_mono h (s_I_of (fun v33 u34 h => ?_)) (fun _ _ h9 => h9))
  show s_Ex (d + 1) 0 mX12_book 97 [some (.ref (79)), none, some (.int (x2)), none, some (.int (x4)), none, none] [.int (v33)] u34 Q X
  refine s_blk [(.istore 5, 2, 0, 0), (.aload_n 0, 1, 0, 0), (.iconst 0, 1, 0, 0), (.bipush 40, 2, 0, 0)] 103 [some (.ref (79)), none, some (.int (x2)), none, some (.int (x4)), some (.int (v33)), none] [.int (40), .int (0), .ref (79)] u34 [] (by decide +kernel) (by refine qt_istore (L' := [some (.ref (79)), none, some (.int (x2)), none, some (.int (x4)), some (.int (v33)), none]) rfl ?_; refine qt_aload_n (r := 79) rfl ?_; refine qt_iconst qc_0 ?_; refine qt_bipush qb_40 ?_; exact qt_z rfl rfl rfl rfl rfl) trivial ?_
  refine s_callV (a := 0) (a' := 0) (As := [.int (0), .int (40)]) (id := 79) (st := []) kX12_readNumber l_12_254 (by decide +kernel) (q_id_of rfl) rfl (Nat.le_of_ble_eq_true rfl) (s_mono h (s_I_of (fun v35 u36 h => ?_)) (fun _ _ h9 => h9))
  show s_Ex (d + 1) 0 mX12_book 106 [some (.ref (79)), none, some (.int (x2)), none, some (.int (x4)), some (.int (v33)), none] [.int (v35)] u36 Q X
  refine s_blk [(.istore 6, 2, 0, 0), (.aload_n 0, 1, 0, 0), (.bipush 59, 2, 0, 0)] 111 [some (.ref (79)), none, some (.int (x2)), none, some (.int (x4)), some (.int (v33)), some (.int (v35))] [.int (59), .ref (79)] u36 [] (by decide +kernel) (by refine qt_istore (L' := [some (.ref (79)), none, some (.int (x2)), none, some (.int (x4)), some (.int (v33)), some (.int (v35))]) rfl ?_; refine qt_aload_n (r := 79) rfl ?_; refine qt_bipush qb_59 ?_; exact qt_z rfl rfl rfl rfl rfl) trivial ?_
  refine s_callV (a := 0) (a' := 0) (As := [.int (59)]) (id := 79) (st := []) kX12_sign l_12_297 (by decide +kernel) (q_id_of rfl) rfl (Nat.le_of_ble_eq_true rfl) (s_mono h (s_V_of (fun u38 h => ?_)) (fun _ _ h9 => h9))
  show s_Ex (d + 1) 0 mX12_book 114 [some (.ref (79)), none, some (.int (x2)), none, some (.int (x4)), some (.int (v33)), some (.int (v35))] [] u38 Q X
  refine s_blk [(.aload_n 0, 1, 0, 0)] 115 [some (.ref (79)), none, some (.int (x2)), none, some (.int (x4)), some (.int (v33)), some (.int (v35))] [.ref (79)] u38 [] (by decide +kernel) (by refine qt_aload_n (r := 79) rfl ?_; exact qt_z rfl rfl rfl rfl rfl) trivial ?_
  refine s_callV (a := 0) (a' := 0) (As := []) (id := 79) (st := []) kX12_fine l_12_164 (by decide +kernel) (q_id_of rfl) rfl (Nat.le_of_ble_eq_true rfl) (s_mono h (s_I_of (fun v39 u40 h => ?_)) (fun _ _ h9 => h9))
  show s_Ex (d + 1) 0 mX12_book 118 [some (.ref (79)), none, some (.int (x2)), none, some (.int (x4)), some (.int (v33)), some (.int (v35))] [.int (v39)] u40 Q X
  refine s_if (cd := .ne) (off := 6) 124 (by decide +kernel) (by decide) (fun hc => ?_) (fun hc => ?_)
  · replace h := h.1 hc
    obtain ⟨ho44, h⟩ := h
    replace h := h _ rfl
    obtain ⟨ho45, h⟩ := h
    replace h := h _ rfl
    obtain ⟨ho46, h⟩ := h
    replace h := h _ rfl
    refine s_blk [(.aload_n 0, 1, 0, 0), (.getfield 98, 3, 12, 53), (.iconst 3, 1, 0, 0), (.iload_n 2, 1, 0, 0), (.imul, 1, 0, 0), (.iload 4, 2, 0, 0), (.iastore, 1, 0, 0), (.aload_n 0, 1, 0, 0), (.getfield 98, 3, 12, 53), (.iconst 3, 1, 0, 0), (.iload_n 2, 1, 0, 0), (.imul, 1, 0, 0), (.iconst 1, 1, 0, 0), (.iadd, 1, 0, 0), (.iload 5, 2, 0, 0), (.iastore, 1, 0, 0), (.aload_n 0, 1, 0, 0), (.getfield 98, 3, 12, 53), (.iconst 3, 1, 0, 0), (.iload_n 2, 1, 0, 0), (.imul, 1, 0, 0), (.iconst 2, 1, 0, 0), (.iadd, 1, 0, 0), (.iload 6, 2, 0, 0), (.iastore, 1, 0, 0), (.iinc 2 1, 3, 0, 0), (.goto (-115), 3, 46, 0), (.nop, 0, 4, 0), (.nop, 0, 5, 0), (.nop, 0, 6, 0)] 46 [some (.ref (79)), none, some (.int (x2 + 1)), none, none, none, none] [] (q_wI (q_wI (q_wI u40 107 (Int32.toNatClampNeg (3 * x2)) x4) 107 (Int32.toNatClampNeg ((3 * x2) + 1)) v33) 107 (Int32.toNatClampNeg ((3 * x2) + 2)) v35) [q_id 116 12 79, q_id 116 14 107, vp_in (3 * x2) 30, q_id 116 12 79, q_id 116 14 107, vp_in ((3 * x2) + 1) 30, q_id 116 12 79, q_id 116 14 107, vp_in ((3 * x2) + 2) 30] (by decide +kernel) (by refine qt_aload_n (r := 79) rfl ?_; refine qt_getR (r := 107) rfl rfl rfl ?_; refine qt_iconst qc_3 ?_; refine qt_iload_n (x := x2) rfl ?_; refine qt_imul ?_; refine qt_iload (x := x4) rfl ?_; refine qt_iast ?_; refine qt_aload_n (r := 79) rfl ?_; refine qt_getR (r := 107) rfl rfl rfl ?_; refine qt_iconst qc_3 ?_; refine qt_iload_n (x := x2) rfl ?_; refine qt_imul ?_; refine qt_iconst qc_1 ?_; refine qt_iadd ?_; refine qt_iload (x := v33) rfl ?_; refine qt_iast ?_; refine qt_aload_n (r := 79) rfl ?_; refine qt_getR (r := 107) rfl rfl rfl ?_; refine qt_iconst qc_3 ?_; refine qt_iload_n (x := x2) rfl ?_; refine qt_imul ?_; refine qt_iconst qc_2 ?_; refine qt_iadd ?_; refine qt_iload (x := v35) rfl ?_; refine qt_iast ?_; refine qt_iinc (x := x2) (L' := [some (.ref (79)), none, some (.int (x2 + 1)), none, some (.int (x4)), some (.int (v33)), some (.int (v35))]) rfl qc_1 rfl ?_; refine qt_goto ?_; refine qt_nop (L' := [some (.ref (79)), none, some (.int (x2 + 1)), none, none, some (.int (v33)), some (.int (v35))]) rfl ?_; refine qt_nop (L' := [some (.ref (79)), none, some (.int (x2 + 1)), none, none, none, some (.int (v35))]) rfl ?_; refine qt_nop (L' := [some (.ref (79)), none, some (.int (x2 + 1)), none, none, none, none]) rfl ?_; exact qt_z rfl rfl rfl rfl rfl) ⟨(q_id_of rfl), (q_id_of rfl), ho44, (q_id_of rfl), (q_id_of rfl), ho45, (q_id_of rfl), (q_id_of rfl), ho46⟩ ?_
    exact h
  · replace h := h.2 hc
    refine s_blk [(.goto 43, 3, 164, 0), (.nop, 0, 4, 0), (.nop, 0, 5, 0), (.nop, 0, 6, 0)] 164 [some (.ref (79)), none, some (.int (x2)), none, none, none, none] [] u40 [] (by decide +kernel) (by refine qt_goto ?_; refine qt_nop (L' := [some (.ref (79)), none, some (.int (x2)), none, none, some (.int (v33)), some (.int (v35))]) rfl ?_; refine qt_nop (L' := [some (.ref (79)), none, some (.int (x2)), none, none, none, some (.int (v35))]) rfl ?_; refine qt_nop (L' := [some (.ref (79)), none, some (.int (x2)), none, none, none, none]) rfl ?_; exact qt_z rfl rfl rfl rfl rfl) trivial ?_
    exact h
theorem eX12_book {d : Nat} {x1 : Int32} {w : q_Sm} {Q : s_Po} {X : s_Xo} (h : vX12_book_0 d x1 w Q X) : s_Ev (d + 1) 0 mX12_book w [.ref (79), .int (x1)] Q X := s_of (by decide +kernel) rfl (Nat.le_of_ble_eq_true rfl) (xX12_book_0 h)
def vX12_undo_0 (d : Nat)  (w : q_Sm) (Q : s_Po) (X : s_Xo) : Prop := ∀ w_1 : q_Sm, w_1 = q_wI w 79 0 0 → ((¬ (w_1.1 79 45) = 0) → ∀ w_2 : q_Sm, w_2 = q_wI w_1 79 45 ((w_1.1 79 45) - 1) → s_Ex (d + 1) 0 mX12_undo 26 [some (.ref (79)), some (.int (0))] [] w_2 Q X) ∧ (¬ (¬ (w_1.1 79 45) = 0) → Q (some (.int (-1))) w_1)
def vX12_undo_26 (d : Nat) (x1 : Int32) (w : q_Sm) (Q : s_Po) (X : s_Xo) : Prop := ((63 ≤ x1) → ∀ w_3 : q_Sm, w_3 = q_wI w 79 46 0 → Q (some (.int (w_3.1 79 45))) w_3) ∧ (¬ (63 ≤ x1) → (vp_in ((63 * (w.1 79 45)) + x1) 1008) ∧ (vp_in x1 63) ∧ ∀ w_4 : q_Sm, w_4 = q_wI w 104 (Int32.toNatClampNeg x1) (w.1 106 (Int32.toNatClampNeg ((63 * (w.1 79 45)) + x1))) → s_Ex (d + 1) 0 mX12_undo 26 [some (.ref (79)), some (.int (x1 + 1))] [] w_4 Q X)
theorem xX12_undo_0 {d : Nat}  {w : q_Sm} {Q : s_Po} {X : s_Xo} (h : vX12_undo_0 d  w Q X) : s_Ex (d + 1) 0 mX12_undo 0 [some (.ref (79)), none] [] w Q X := by
  unfold vX12_undo_0 at h
  replace h := h _ rfl
  refine s_blk [(.aload_n 0, 1, 0, 0), (.iconst 0, 1, 0, 0), (.putfield 3, 3, 12, 0), (.aload_n 0, 1, 0, 0), (.getfield 218, 3, 12, 45)] 9 [some (.ref (79)), none] [.int ((q_wI w 79 0 0).1 79 45)] (q_wI w 79 0 0) [q_id 116 12 79, q_id 116 12 79] (by decide +kernel) (by refine qt_aload_n (r := 79) rfl ?_; refine qt_iconst qc_0 ?_; refine qt_putI rfl ?_; refine qt_aload_n (r := 79) rfl ?_; refine qt_getI rfl rfl ?_; exact qt_z rfl rfl rfl rfl rfl) ⟨(q_id_of rfl), (q_id_of rfl)⟩ ?_
  refine s_if (cd := .ne) (off := 5) 14 (by decide +kernel) (by decide) (fun hc => ?_) (fun hc => ?_)
  · replace h := h.1 hc
    replace h := h _ rfl
    refine s_blk [(.aload_n 0, 1, 0, 0), (.dup, 1, 0, 0), (.getfield 218, 3, 12, 45), (.iconst 1, 1, 0, 0), (.isub, 1, 0, 0), (.putfield 218, 3, 12, 45), (.iconst 0, 1, 0, 0), (.istore_n 1, 1, 0, 0)] 26 [some (.ref (79)), some (.int (0))] [] (q_wI (q_wI w 79 0 0) 79 45 (((q_wI w 79 0 0).1 79 45) - 1)) [q_id 116 12 79, q_id 116 12 79] (by decide +kernel) (by refine qt_aload_n (r := 79) rfl ?_; refine qt_dupR ?_; refine qt_getI rfl rfl ?_; refine qt_iconst qc_1 ?_; refine qt_isub ?_; refine qt_putI rfl ?_; refine qt_iconst qc_0 ?_; refine qt_istore_n (L' := [some (.ref (79)), some (.int (0))]) rfl ?_; exact qt_z rfl rfl rfl rfl rfl) ⟨(q_id_of rfl), (q_id_of rfl)⟩ ?_
    exact h
  · replace h := h.2 hc
    refine s_blk [(.iconst (-1), 1, 0, 0)] 13 [some (.ref (79)), none] [.int (-1)] (q_wI w 79 0 0) [] (by decide +kernel) (by refine qt_iconst qc_m1 ?_; exact qt_z rfl rfl rfl rfl rfl) trivial ?_
    exact s_retI .int (by decide +kernel) rfl rfl h
theorem xX12_undo_26 {d : Nat} {x1 : Int32} {w : q_Sm} {Q : s_Po} {X : s_Xo} (h : vX12_undo_26 d x1 w Q X) : s_Ex (d + 1) 0 mX12_undo 26 [some (.ref (79)), some (.int (x1))] [] w Q X := by
  unfold vX12_undo_26 at h
  refine s_blk [(.iload_n 1, 1, 0, 0), (.bipush 63, 2, 0, 0)] 29 [some (.ref (79)), some (.int (x1))] [.int (63), .int (x1)] w [] (by decide +kernel) (by refine qt_iload_n (x := x1) rfl ?_; refine qt_bipush qb_63 ?_; exact qt_z rfl rfl rfl rfl rfl) trivial ?_
  refine s_icmp (cd := .ge) (off := 29) 58 (by decide +kernel) (by decide) (fun hc => ?_) (fun hc => ?_)
  · replace h := h.1 hc
    replace h := h _ rfl
    refine s_blk [(.aload_n 0, 1, 0, 0), (.iconst 0, 1, 0, 0), (.putfield 224, 3, 12, 46), (.aload_n 0, 1, 0, 0), (.getfield 218, 3, 12, 45)] 67 [some (.ref (79)), some (.int (x1))] [.int ((q_wI w 79 46 0).1 79 45)] (q_wI w 79 46 0) [q_id 116 12 79, q_id 116 12 79] (by decide +kernel) (by refine qt_aload_n (r := 79) rfl ?_; refine qt_iconst qc_0 ?_; refine qt_putI rfl ?_; refine qt_aload_n (r := 79) rfl ?_; refine qt_getI rfl rfl ?_; exact qt_z rfl rfl rfl rfl rfl) ⟨(q_id_of rfl), (q_id_of rfl)⟩ ?_
    exact s_retI .int (by decide +kernel) rfl rfl h
  · replace h := h.2 hc
    obtain ⟨ho5, h⟩ := h
    obtain ⟨ho6, h⟩ := h
    replace h := h _ rfl
    refine s_blk [(.aload_n 0, 1, 0, 0), (.getfield 89, 3, 12, 50), (.iload_n 1, 1, 0, 0), (.aload_n 0, 1, 0, 0), (.getfield 95, 3, 12, 52), (.bipush 63, 2, 0, 0), (.aload_n 0, 1, 0, 0), (.getfield 218, 3, 12, 45), (.imul, 1, 0, 0), (.iload_n 1, 1, 0, 0), (.iadd, 1, 0, 0), (.iaload, 1, 0, 0), (.iastore, 1, 0, 0), (.iinc 1 1, 3, 0, 0), (.goto (-29), 3, 26, 0)] 26 [some (.ref (79)), some (.int (x1 + 1))] [] (q_wI w 104 (Int32.toNatClampNeg x1) (w.1 106 (Int32.toNatClampNeg ((63 * (w.1 79 45)) + x1)))) [q_id 116 12 79, q_id 116 12 79, q_id 116 12 79, q_id 116 14 106, vp_in ((63 * (w.1 79 45)) + x1) 1008, q_id 116 14 104, vp_in x1 63] (by decide +kernel) (by refine qt_aload_n (r := 79) rfl ?_; refine qt_getR (r := 104) rfl rfl rfl ?_; refine qt_iload_n (x := x1) rfl ?_; refine qt_aload_n (r := 79) rfl ?_; refine qt_getR (r := 106) rfl rfl rfl ?_; refine qt_bipush qb_63 ?_; refine qt_aload_n (r := 79) rfl ?_; refine qt_getI rfl rfl ?_; refine qt_imul ?_; refine qt_iload_n (x := x1) rfl ?_; refine qt_iadd ?_; refine qt_iald ?_; refine qt_iast ?_; refine qt_iinc (x := x1) (L' := [some (.ref (79)), some (.int (x1 + 1))]) rfl qc_1 rfl ?_; refine qt_goto ?_; exact qt_z rfl rfl rfl rfl rfl) ⟨(q_id_of rfl), (q_id_of rfl), (q_id_of rfl), (q_id_of rfl), ho5, (q_id_of rfl), ho6⟩ ?_
    exact h
theorem eX12_undo {d : Nat}  {w : q_Sm} {Q : s_Po} {X : s_Xo} (h : vX12_undo_0 d  w Q X) : s_Ev (d + 1) 0 mX12_undo w [.ref (79)] Q X := s_of (by decide +kernel) rfl (Nat.le_of_ble_eq_true rfl) (xX12_undo_0 h)
def vX12_told_0 (d : Nat) (x1 : Int32) (w : q_Sm) (Q : s_Po) (X : s_Xo) : Prop := ∀ w_1 : q_Sm, w_1 = q_wI w 79 0 0 → s_EvI d 0 mX12_within w_1 [.int (x1), .int (0), .int (8)] (fun v2 u3 => s_EvI d 0 mX12_may u3 [.ref (79), .int (v2), .int (1), .int (1)] (fun v4 u5 => ((¬ v4 = 0) → s_EvV d 0 mX12_take u5 [.ref (79)] (fun u7 => ((4 ≤ x1) → ((7 ≤ x1) → ((¬ x1 = 7) → Q (some (.int (u7.1 79 46))) u7) ∧ (¬ (¬ x1 = 7) → Q (some (.int (u7.1 79 55))) u7)) ∧ (¬ (7 ≤ x1) → ((¬ x1 = 4) → ((¬ x1 = 5) → s_EvI d 0 mX12_lateAll u7 [.ref (79)] (fun v8 u9 => Q (some (.int (v8))) u9) X) ∧ (¬ (¬ x1 = 5) → s_EvI d 0 mX12_owedAll u7 [.ref (79)] (fun v10 u11 => Q (some (.int (v10))) u11) X)) ∧ (¬ (¬ x1 = 4) → Q (some (.int (u7.1 105 (Int32.toNatClampNeg 62)))) u7))) ∧ (¬ (4 ≤ x1) → ((¬ x1 = 0) → ((¬ x1 = 1) → ((¬ x1 = 2) → Q (some (.int (u7.1 79 32))) u7) ∧ (¬ (¬ x1 = 2) → Q (some (.int (u7.1 79 31))) u7)) ∧ (¬ (¬ x1 = 1) → Q (some (.int (u7.1 79 30))) u7)) ∧ (¬ (¬ x1 = 0) → Q (some (.int (u7.1 79 29))) u7))) X) ∧ (¬ (¬ v4 = 0) → Q (some (.int (0))) u5)) X) X
theorem xX12_told_0 {d : Nat} {x1 : Int32} {w : q_Sm} {Q : s_Po} {X : s_Xo} (h : vX12_told_0 d x1 w Q X) : s_Ex (d + 1) 0 mX12_told 0 [some (.ref (79)), some (.int (x1))] [] w Q X := by
  unfold vX12_told_0 at h
  replace h := h _ rfl
  refine s_blk [(.aload_n 0, 1, 0, 0), (.iconst 0, 1, 0, 0), (.putfield 3, 3, 12, 0), (.aload_n 0, 1, 0, 0), (.iload_n 1, 1, 0, 0), (.iconst 0, 1, 0, 0), (.bipush 8, 2, 0, 0)] 10 [some (.ref (79)), some (.int (x1))] [.int (8), .int (0), .int (x1), .ref (79)] (q_wI w 79 0 0) [q_id 116 12 79] (by decide +kernel) (by refine qt_aload_n (r := 79) rfl ?_; refine qt_iconst qc_0 ?_; refine qt_putI rfl ?_; refine qt_aload_n (r := 79) rfl ?_; refine qt_iload_n (x := x1) rfl ?_; refine qt_iconst qc_0 ?_; refine qt_bipush qb_8 ?_; exact qt_z rfl rfl rfl rfl rfl) (q_id_of rfl) ?_
  refine s_callS (a := 0) (a' := 0) (As := [.int (x1), .int (0), .int (8)]) (st := [.ref (79)]) kX12_within l_12_410 (by decide +kernel) rfl (Nat.le_of_ble_eq_true rfl) (s_mono h (s_I_of (fun v2 u3 h => ?_)) (fun _ _ h9 => h9))
  show s_Ex (d + 1) 0 mX12_told 13 [some (.ref (79)), some (.int (x1))] [.int (v2), .ref (79)] u3 Q X
  refine s_blk [(.iconst 1, 1, 0, 0), (.iconst 1, 1, 0, 0)] 15 [some (.ref (79)), some (.int (x1))] [.int (1), .int (1), .int (v2), .ref (79)] u3 [] (by decide +kernel) (by refine qt_iconst qc_1 ?_; refine qt_iconst qc_1 ?_; exact qt_z rfl rfl rfl rfl rfl) trivial ?_
  refine s_callV (a := 0) (a' := 0) (As := [.int (v2), .int (1), .int (1)]) (id := 79) (st := []) kX12_may l_12_270 (by decide +kernel) (q_id_of rfl) rfl (Nat.le_of_ble_eq_true rfl) (s_mono h (s_I_of (fun v4 u5 h => ?_)) (fun _ _ h9 => h9))
  show s_Ex (d + 1) 0 mX12_told 18 [some (.ref (79)), some (.int (x1))] [.int (v4)] u5 Q X
  refine s_if (cd := .ne) (off := 5) 23 (by decide +kernel) (by decide) (fun hc => ?_) (fun hc => ?_)
  · replace h := h.1 hc
    refine s_blk [(.aload_n 0, 1, 0, 0)] 24 [some (.ref (79)), some (.int (x1))] [.ref (79)] u5 [] (by decide +kernel) (by refine qt_aload_n (r := 79) rfl ?_; exact qt_z rfl rfl rfl rfl rfl) trivial ?_
    refine s_callV (a := 0) (a' := 0) (As := []) (id := 79) (st := []) kX12_take l_12_369 (by decide +kernel) (q_id_of rfl) rfl (Nat.le_of_ble_eq_true rfl) (s_mono h (s_V_of (fun u7 h => ?_)) (fun _ _ h9 => h9))
    show s_Ex (d + 1) 0 mX12_told 27 [some (.ref (79)), some (.int (x1))] [] u7 Q X
    refine s_blk [(.iload_n 1, 1, 0, 0), (.iconst 4, 1, 0, 0)] 29 [some (.ref (79)), some (.int (x1))] [.int (4), .int (x1)] u7 [] (by decide +kernel) (by refine qt_iload_n (x := x1) rfl ?_; refine qt_iconst qc_4 ?_; exact qt_z rfl rfl rfl rfl rfl) trivial ?_
    refine s_icmp (cd := .ge) (off := 43) 72 (by decide +kernel) (by decide) (fun hc => ?_) (fun hc => ?_)
    · replace h := h.1 hc
      refine s_blk [(.iload_n 1, 1, 0, 0), (.bipush 7, 2, 0, 0)] 75 [some (.ref (79)), some (.int (x1))] [.int (7), .int (x1)] u7 [] (by decide +kernel) (by refine qt_iload_n (x := x1) rfl ?_; refine qt_bipush qb_7 ?_; exact qt_z rfl rfl rfl rfl rfl) trivial ?_
      refine s_icmp (cd := .ge) (off := 35) 110 (by decide +kernel) (by decide) (fun hc => ?_) (fun hc => ?_)
      · replace h := h.1 hc
        refine s_blk [(.iload_n 1, 1, 0, 0), (.bipush 7, 2, 0, 0)] 113 [some (.ref (79)), some (.int (x1))] [.int (7), .int (x1)] u7 [] (by decide +kernel) (by refine qt_iload_n (x := x1) rfl ?_; refine qt_bipush qb_7 ?_; exact qt_z rfl rfl rfl rfl rfl) trivial ?_
        refine s_icmp (cd := .ne) (off := 10) 123 (by decide +kernel) (by decide) (fun hc => ?_) (fun hc => ?_)
        · replace h := h.1 hc
          refine s_blk [(.aload_n 0, 1, 0, 0), (.getfield 224, 3, 12, 46)] 127 [some (.ref (79)), some (.int (x1))] [.int (u7.1 79 46)] u7 [q_id 116 12 79] (by decide +kernel) (by refine qt_aload_n (r := 79) rfl ?_; refine qt_getI rfl rfl ?_; exact qt_z rfl rfl rfl rfl rfl) (q_id_of rfl) ?_
          exact s_retI .int (by decide +kernel) rfl rfl h
        · replace h := h.2 hc
          refine s_blk [(.aload_n 0, 1, 0, 0), (.getfield 215, 3, 12, 55), (.goto 7, 3, 127, 0)] 127 [some (.ref (79)), some (.int (x1))] [.int (u7.1 79 55)] u7 [q_id 116 12 79] (by decide +kernel) (by refine qt_aload_n (r := 79) rfl ?_; refine qt_getI rfl rfl ?_; refine qt_goto ?_; exact qt_z rfl rfl rfl rfl rfl) (q_id_of rfl) ?_
          exact s_retI .int (by decide +kernel) rfl rfl h
      · replace h := h.2 hc
        refine s_blk [(.iload_n 1, 1, 0, 0), (.iconst 4, 1, 0, 0)] 80 [some (.ref (79)), some (.int (x1))] [.int (4), .int (x1)] u7 [] (by decide +kernel) (by refine qt_iload_n (x := x1) rfl ?_; refine qt_iconst qc_4 ?_; exact qt_z rfl rfl rfl rfl rfl) trivial ?_
        refine s_icmp (cd := .ne) (off := 13) 93 (by decide +kernel) (by decide) (fun hc => ?_) (fun hc => ?_)
        · replace h := h.1 hc
          refine s_blk [(.iload_n 1, 1, 0, 0), (.iconst 5, 1, 0, 0)] 95 [some (.ref (79)), some (.int (x1))] [.int (5), .int (x1)] u7 [] (by decide +kernel) (by refine qt_iload_n (x := x1) rfl ?_; refine qt_iconst qc_5 ?_; exact qt_z rfl rfl rfl rfl rfl) trivial ?_
          refine s_icmp (cd := .ne) (off := 10) 105 (by decide +kernel) (by decide) (fun hc => ?_) (fun hc => ?_)
          · replace h := h.1 hc
            refine s_blk [(.aload_n 0, 1, 0, 0)] 106 [some (.ref (79)), some (.int (x1))] [.ref (79)] u7 [] (by decide +kernel) (by refine qt_aload_n (r := 79) rfl ?_; exact qt_z rfl rfl rfl rfl rfl) trivial ?_
            refine s_callV (a := 0) (a' := 0) (As := []) (id := 79) (st := []) kX12_lateAll l_12_416 (by decide +kernel) (q_id_of rfl) rfl (Nat.le_of_ble_eq_true rfl) (s_mono h (s_I_of (fun v8 u9 h => ?_)) (fun _ _ h9 => h9))
            show s_Ex (d + 1) 0 mX12_told 109 [some (.ref (79)), some (.int (x1))] [.int (v8)] u9 Q X
            exact s_retI .int (by decide +kernel) rfl rfl h
          · replace h := h.2 hc
            refine s_blk [(.aload_n 0, 1, 0, 0)] 99 [some (.ref (79)), some (.int (x1))] [.ref (79)] u7 [] (by decide +kernel) (by refine qt_aload_n (r := 79) rfl ?_; exact qt_z rfl rfl rfl rfl rfl) trivial ?_
            refine s_callV (a := 0) (a' := 0) (As := []) (id := 79) (st := []) kX12_owedAll l_12_413 (by decide +kernel) (q_id_of rfl) rfl (Nat.le_of_ble_eq_true rfl) (s_mono h (s_I_of (fun v10 u11 h => ?_)) (fun _ _ h9 => h9))
            show s_Ex (d + 1) 0 mX12_told 102 [some (.ref (79)), some (.int (x1))] [.int (v10)] u11 Q X
            refine s_blk [(.goto 7, 3, 109, 0)] 109 [some (.ref (79)), some (.int (x1))] [.int (v10)] u11 [] (by decide +kernel) (by refine qt_goto ?_; exact qt_z rfl rfl rfl rfl rfl) trivial ?_
            exact s_retI .int (by decide +kernel) rfl rfl h
        · replace h := h.2 hc
          refine s_blk [(.aload_n 0, 1, 0, 0), (.getfield 92, 3, 12, 51), (.bipush 62, 2, 0, 0), (.iaload, 1, 0, 0), (.goto 19, 3, 109, 0)] 109 [some (.ref (79)), some (.int (x1))] [.int (u7.1 105 (Int32.toNatClampNeg 62))] u7 [q_id 116 12 79, q_id 116 14 105, vp_in 62 63] (by decide +kernel) (by refine qt_aload_n (r := 79) rfl ?_; refine qt_getR (r := 105) rfl rfl rfl ?_; refine qt_bipush qb_62 ?_; refine qt_iald ?_; refine qt_goto ?_; exact qt_z rfl rfl rfl rfl rfl) ⟨(q_id_of rfl), (q_id_of rfl), (q_vin rfl)⟩ ?_
          exact s_retI .int (by decide +kernel) rfl rfl h
    · replace h := h.2 hc
      refine s_blk [(.iload_n 1, 1, 0, 0)] 33 [some (.ref (79)), some (.int (x1))] [.int (x1)] u7 [] (by decide +kernel) (by refine qt_iload_n (x := x1) rfl ?_; exact qt_z rfl rfl rfl rfl rfl) trivial ?_
      refine s_if (cd := .ne) (off := 10) 43 (by decide +kernel) (by decide) (fun hc => ?_) (fun hc => ?_)
      · replace h := h.1 hc
        refine s_blk [(.iload_n 1, 1, 0, 0), (.iconst 1, 1, 0, 0)] 45 [some (.ref (79)), some (.int (x1))] [.int (1), .int (x1)] u7 [] (by decide +kernel) (by refine qt_iload_n (x := x1) rfl ?_; refine qt_iconst qc_1 ?_; exact qt_z rfl rfl rfl rfl rfl) trivial ?_
        refine s_icmp (cd := .ne) (off := 10) 55 (by decide +kernel) (by decide) (fun hc => ?_) (fun hc => ?_)
        · replace h := h.1 hc
          refine s_blk [(.iload_n 1, 1, 0, 0), (.iconst 2, 1, 0, 0)] 57 [some (.ref (79)), some (.int (x1))] [.int (2), .int (x1)] u7 [] (by decide +kernel) (by refine qt_iload_n (x := x1) rfl ?_; refine qt_iconst qc_2 ?_; exact qt_z rfl rfl rfl rfl rfl) trivial ?_
          refine s_icmp (cd := .ne) (off := 10) 67 (by decide +kernel) (by decide) (fun hc => ?_) (fun hc => ?_)
          · replace h := h.1 hc
            refine s_blk [(.aload_n 0, 1, 0, 0), (.getfield 202, 3, 12, 32)] 71 [some (.ref (79)), some (.int (x1))] [.int (u7.1 79 32)] u7 [q_id 116 12 79] (by decide +kernel) (by refine qt_aload_n (r := 79) rfl ?_; refine qt_getI rfl rfl ?_; exact qt_z rfl rfl rfl rfl rfl) (q_id_of rfl) ?_
            exact s_retI .int (by decide +kernel) rfl rfl h
          · replace h := h.2 hc
            refine s_blk [(.aload_n 0, 1, 0, 0), (.getfield 199, 3, 12, 31), (.goto 7, 3, 71, 0)] 71 [some (.ref (79)), some (.int (x1))] [.int (u7.1 79 31)] u7 [q_id 116 12 79] (by decide +kernel) (by refine qt_aload_n (r := 79) rfl ?_; refine qt_getI rfl rfl ?_; refine qt_goto ?_; exact qt_z rfl rfl rfl rfl rfl) (q_id_of rfl) ?_
            exact s_retI .int (by decide +kernel) rfl rfl h
        · replace h := h.2 hc
          refine s_blk [(.aload_n 0, 1, 0, 0), (.getfield 196, 3, 12, 30), (.goto 19, 3, 71, 0)] 71 [some (.ref (79)), some (.int (x1))] [.int (u7.1 79 30)] u7 [q_id 116 12 79] (by decide +kernel) (by refine qt_aload_n (r := 79) rfl ?_; refine qt_getI rfl rfl ?_; refine qt_goto ?_; exact qt_z rfl rfl rfl rfl rfl) (q_id_of rfl) ?_
          exact s_retI .int (by decide +kernel) rfl rfl h
      · replace h := h.2 hc
        refine s_blk [(.aload_n 0, 1, 0, 0), (.getfield 193, 3, 12, 29), (.goto 31, 3, 71, 0)] 71 [some (.ref (79)), some (.int (x1))] [.int (u7.1 79 29)] u7 [q_id 116 12 79] (by decide +kernel) (by refine qt_aload_n (r := 79) rfl ?_; refine qt_getI rfl rfl ?_; refine qt_goto ?_; exact qt_z rfl rfl rfl rfl rfl) (q_id_of rfl) ?_
        exact s_retI .int (by decide +kernel) rfl rfl h
  · replace h := h.2 hc
    refine s_blk [(.iconst 0, 1, 0, 0)] 22 [some (.ref (79)), some (.int (x1))] [.int (0)] u5 [] (by decide +kernel) (by refine qt_iconst qc_0 ?_; exact qt_z rfl rfl rfl rfl rfl) trivial ?_
    exact s_retI .int (by decide +kernel) rfl rfl h
theorem eX12_told {d : Nat} {x1 : Int32} {w : q_Sm} {Q : s_Po} {X : s_Xo} (h : vX12_told_0 d x1 w Q X) : s_Ev (d + 1) 0 mX12_told w [.ref (79), .int (x1)] Q X := s_of (by decide +kernel) rfl (Nat.le_of_ble_eq_true rfl) (xX12_told_0 h)
def vX12_isCreditor__0 (d : Nat) (x1 : Int32) (x2 : Int32) (w : q_Sm) (Q : s_Po) (X : s_Xo) : Prop := s_EvI d 0 mX12_within w [.int (x1), .int (0), .int ((w.1 79 29) - 1)] (fun v1 u2 => s_EvI d 0 mX12_may u2 [.ref (79), .int (v1), .int (x2), .int (0)] (fun v3 u4 => narrow .boolean (.int (v3)) = .int (v3) ∧ Q (some (.int (v3))) u4) X) X
theorem xX12_isCreditor__0 {d : Nat} {x1 : Int32} {x2 : Int32} {w : q_Sm} {Q : s_Po} {X : s_Xo} (h : vX12_isCreditor__0 d x1 x2 w Q X) : s_Ex (d + 1) 0 mX12_isCreditor_ 0 [some (.ref (79)), some (.int (x1)), some (.int (x2))] [] w Q X := by
  unfold vX12_isCreditor__0 at h
  refine s_blk [(.aload_n 0, 1, 0, 0), (.iload_n 1, 1, 0, 0), (.iconst 0, 1, 0, 0), (.aload_n 0, 1, 0, 0), (.getfield 193, 3, 12, 29), (.iconst 1, 1, 0, 0), (.isub, 1, 0, 0)] 9 [some (.ref (79)), some (.int (x1)), some (.int (x2))] [.int ((w.1 79 29) - 1), .int (0), .int (x1), .ref (79)] w [q_id 116 12 79] (by decide +kernel) (by refine qt_aload_n (r := 79) rfl ?_; refine qt_iload_n (x := x1) rfl ?_; refine qt_iconst qc_0 ?_; refine qt_aload_n (r := 79) rfl ?_; refine qt_getI rfl rfl ?_; refine qt_iconst qc_1 ?_; refine qt_isub ?_; exact qt_z rfl rfl rfl rfl rfl) (q_id_of rfl) ?_
  refine s_callS (a := 0) (a' := 0) (As := [.int (x1), .int (0), .int ((w.1 79 29) - 1)]) (st := [.ref (79)]) kX12_within l_12_410 (by decide +kernel) rfl (Nat.le_of_ble_eq_true rfl) (s_mono h (s_I_of (fun v1 u2 h => ?_)) (fun _ _ h9 => h9))
  show s_Ex (d + 1) 0 mX12_isCreditor_ 12 [some (.ref (79)), some (.int (x1)), some (.int (x2))] [.int (v1), .ref (79)] u2 Q X
  refine s_blk [(.iload_n 2, 1, 0, 0), (.iconst 0, 1, 0, 0)] 14 [some (.ref (79)), some (.int (x1)), some (.int (x2))] [.int (0), .int (x2), .int (v1), .ref (79)] u2 [] (by decide +kernel) (by refine qt_iload_n (x := x2) rfl ?_; refine qt_iconst qc_0 ?_; exact qt_z rfl rfl rfl rfl rfl) trivial ?_
  refine s_callV (a := 0) (a' := 0) (As := [.int (v1), .int (x2), .int (0)]) (id := 79) (st := []) kX12_may l_12_270 (by decide +kernel) (q_id_of rfl) rfl (Nat.le_of_ble_eq_true rfl) (s_mono h (s_I_of (fun v3 u4 h => ?_)) (fun _ _ h9 => h9))
  show s_Ex (d + 1) 0 mX12_isCreditor_ 17 [some (.ref (79)), some (.int (x1)), some (.int (x2))] [.int (v3)] u4 Q X
  obtain ⟨hn, h⟩ := h
  exact s_retI .boolean (by decide +kernel) rfl hn h
theorem eX12_isCreditor_ {d : Nat} {x1 : Int32} {x2 : Int32} {w : q_Sm} {Q : s_Po} {X : s_Xo} (h : vX12_isCreditor__0 d x1 x2 w Q X) : s_Ev (d + 1) 0 mX12_isCreditor_ w [.ref (79), .int (x1), .int (x2)] Q X := s_of (by decide +kernel) rfl (Nat.le_of_ble_eq_true rfl) (xX12_isCreditor__0 h)
def vX12_isDebt_0 (d : Nat) (x1 : Int32) (x2 : Int32) (w : q_Sm) (Q : s_Po) (X : s_Xo) : Prop := s_EvI d 0 mX12_within w [.int (x1), .int (0), .int ((w.1 79 30) - 1)] (fun v1 u2 => s_EvI d 0 mX12_may u2 [.ref (79), .int (v1), .int (x2), .int (0)] (fun v3 u4 => narrow .boolean (.int (v3)) = .int (v3) ∧ Q (some (.int (v3))) u4) X) X
theorem xX12_isDebt_0 {d : Nat} {x1 : Int32} {x2 : Int32} {w : q_Sm} {Q : s_Po} {X : s_Xo} (h : vX12_isDebt_0 d x1 x2 w Q X) : s_Ex (d + 1) 0 mX12_isDebt 0 [some (.ref (79)), some (.int (x1)), some (.int (x2))] [] w Q X := by
  unfold vX12_isDebt_0 at h
  refine s_blk [(.aload_n 0, 1, 0, 0), (.iload_n 1, 1, 0, 0), (.iconst 0, 1, 0, 0), (.aload_n 0, 1, 0, 0), (.getfield 196, 3, 12, 30), (.iconst 1, 1, 0, 0), (.isub, 1, 0, 0)] 9 [some (.ref (79)), some (.int (x1)), some (.int (x2))] [.int ((w.1 79 30) - 1), .int (0), .int (x1), .ref (79)] w [q_id 116 12 79] (by decide +kernel) (by refine qt_aload_n (r := 79) rfl ?_; refine qt_iload_n (x := x1) rfl ?_; refine qt_iconst qc_0 ?_; refine qt_aload_n (r := 79) rfl ?_; refine qt_getI rfl rfl ?_; refine qt_iconst qc_1 ?_; refine qt_isub ?_; exact qt_z rfl rfl rfl rfl rfl) (q_id_of rfl) ?_
  refine s_callS (a := 0) (a' := 0) (As := [.int (x1), .int (0), .int ((w.1 79 30) - 1)]) (st := [.ref (79)]) kX12_within l_12_410 (by decide +kernel) rfl (Nat.le_of_ble_eq_true rfl) (s_mono h (s_I_of (fun v1 u2 h => ?_)) (fun _ _ h9 => h9))
  show s_Ex (d + 1) 0 mX12_isDebt 12 [some (.ref (79)), some (.int (x1)), some (.int (x2))] [.int (v1), .ref (79)] u2 Q X
  refine s_blk [(.iload_n 2, 1, 0, 0), (.iconst 0, 1, 0, 0)] 14 [some (.ref (79)), some (.int (x1)), some (.int (x2))] [.int (0), .int (x2), .int (v1), .ref (79)] u2 [] (by decide +kernel) (by refine qt_iload_n (x := x2) rfl ?_; refine qt_iconst qc_0 ?_; exact qt_z rfl rfl rfl rfl rfl) trivial ?_
  refine s_callV (a := 0) (a' := 0) (As := [.int (v1), .int (x2), .int (0)]) (id := 79) (st := []) kX12_may l_12_270 (by decide +kernel) (q_id_of rfl) rfl (Nat.le_of_ble_eq_true rfl) (s_mono h (s_I_of (fun v3 u4 h => ?_)) (fun _ _ h9 => h9))
  show s_Ex (d + 1) 0 mX12_isDebt 17 [some (.ref (79)), some (.int (x1)), some (.int (x2))] [.int (v3)] u4 Q X
  obtain ⟨hn, h⟩ := h
  exact s_retI .boolean (by decide +kernel) rfl hn h
theorem eX12_isDebt {d : Nat} {x1 : Int32} {x2 : Int32} {w : q_Sm} {Q : s_Po} {X : s_Xo} (h : vX12_isDebt_0 d x1 x2 w Q X) : s_Ev (d + 1) 0 mX12_isDebt w [.ref (79), .int (x1), .int (x2)] Q X := s_of (by decide +kernel) rfl (Nat.le_of_ble_eq_true rfl) (xX12_isDebt_0 h)
def vX12_isWedding__0 (d : Nat) (x1 : Int32) (x2 : Int32) (w : q_Sm) (Q : s_Po) (X : s_Xo) : Prop := s_EvI d 0 mX12_within w [.int (x1), .int (0), .int ((w.1 79 32) - 1)] (fun v1 u2 => s_EvI d 0 mX12_may u2 [.ref (79), .int (v1), .int (x2), .int (0)] (fun v3 u4 => narrow .boolean (.int (v3)) = .int (v3) ∧ Q (some (.int (v3))) u4) X) X
theorem xX12_isWedding__0 {d : Nat} {x1 : Int32} {x2 : Int32} {w : q_Sm} {Q : s_Po} {X : s_Xo} (h : vX12_isWedding__0 d x1 x2 w Q X) : s_Ex (d + 1) 0 mX12_isWedding_ 0 [some (.ref (79)), some (.int (x1)), some (.int (x2))] [] w Q X := by
  unfold vX12_isWedding__0 at h
  refine s_blk [(.aload_n 0, 1, 0, 0), (.iload_n 1, 1, 0, 0), (.iconst 0, 1, 0, 0), (.aload_n 0, 1, 0, 0), (.getfield 202, 3, 12, 32), (.iconst 1, 1, 0, 0), (.isub, 1, 0, 0)] 9 [some (.ref (79)), some (.int (x1)), some (.int (x2))] [.int ((w.1 79 32) - 1), .int (0), .int (x1), .ref (79)] w [q_id 116 12 79] (by decide +kernel) (by refine qt_aload_n (r := 79) rfl ?_; refine qt_iload_n (x := x1) rfl ?_; refine qt_iconst qc_0 ?_; refine qt_aload_n (r := 79) rfl ?_; refine qt_getI rfl rfl ?_; refine qt_iconst qc_1 ?_; refine qt_isub ?_; exact qt_z rfl rfl rfl rfl rfl) (q_id_of rfl) ?_
  refine s_callS (a := 0) (a' := 0) (As := [.int (x1), .int (0), .int ((w.1 79 32) - 1)]) (st := [.ref (79)]) kX12_within l_12_410 (by decide +kernel) rfl (Nat.le_of_ble_eq_true rfl) (s_mono h (s_I_of (fun v1 u2 h => ?_)) (fun _ _ h9 => h9))
  show s_Ex (d + 1) 0 mX12_isWedding_ 12 [some (.ref (79)), some (.int (x1)), some (.int (x2))] [.int (v1), .ref (79)] u2 Q X
  refine s_blk [(.iload_n 2, 1, 0, 0), (.iconst 0, 1, 0, 0)] 14 [some (.ref (79)), some (.int (x1)), some (.int (x2))] [.int (0), .int (x2), .int (v1), .ref (79)] u2 [] (by decide +kernel) (by refine qt_iload_n (x := x2) rfl ?_; refine qt_iconst qc_0 ?_; exact qt_z rfl rfl rfl rfl rfl) trivial ?_
  refine s_callV (a := 0) (a' := 0) (As := [.int (v1), .int (x2), .int (0)]) (id := 79) (st := []) kX12_may l_12_270 (by decide +kernel) (q_id_of rfl) rfl (Nat.le_of_ble_eq_true rfl) (s_mono h (s_I_of (fun v3 u4 h => ?_)) (fun _ _ h9 => h9))
  show s_Ex (d + 1) 0 mX12_isWedding_ 17 [some (.ref (79)), some (.int (x1)), some (.int (x2))] [.int (v3)] u4 Q X
  obtain ⟨hn, h⟩ := h
  exact s_retI .boolean (by decide +kernel) rfl hn h
theorem eX12_isWedding_ {d : Nat} {x1 : Int32} {x2 : Int32} {w : q_Sm} {Q : s_Po} {X : s_Xo} (h : vX12_isWedding__0 d x1 x2 w Q X) : s_Ev (d + 1) 0 mX12_isWedding_ w [.ref (79), .int (x1), .int (x2)] Q X := s_of (by decide +kernel) rfl (Nat.le_of_ble_eq_true rfl) (xX12_isWedding__0 h)
def vX12_isColour_0 (d : Nat) (x0 : Int32) (w : q_Sm) (Q : s_Po) (X : s_Xo) : Prop := ((x0 < 0) → Q (some (.int (0))) w) ∧ (¬ (x0 < 0) → ((4 ≤ x0) → Q (some (.int (0))) w) ∧ (¬ (4 ≤ x0) → Q (some (.int (1))) w))
theorem xX12_isColour_0 {d : Nat} {x0 : Int32} {w : q_Sm} {Q : s_Po} {X : s_Xo} (h : vX12_isColour_0 d x0 w Q X) : s_Ex (d + 1) 0 mX12_isColour 0 [some (.int (x0))] [] w Q X := by
  unfold vX12_isColour_0 at h
  refine s_blk [(.iload_n 0, 1, 0, 0)] 1 [some (.int (x0))] [.int (x0)] w [] (by decide +kernel) (by refine qt_iload_n (x := x0) rfl ?_; exact qt_z rfl rfl rfl rfl rfl) trivial ?_
  refine s_if (cd := .lt) (off := 12) 13 (by decide +kernel) (by decide) (fun hc => ?_) (fun hc => ?_)
  · replace h := h.1 hc
    refine s_blk [(.iconst 0, 1, 0, 0)] 14 [some (.int (x0))] [.int (0)] w [] (by decide +kernel) (by refine qt_iconst qc_0 ?_; exact qt_z rfl rfl rfl rfl rfl) trivial ?_
    exact s_retI .boolean (by decide +kernel) rfl rfl h
  · replace h := h.2 hc
    refine s_blk [(.iload_n 0, 1, 0, 0), (.iconst 4, 1, 0, 0)] 6 [some (.int (x0))] [.int (4), .int (x0)] w [] (by decide +kernel) (by refine qt_iload_n (x := x0) rfl ?_; refine qt_iconst qc_4 ?_; exact qt_z rfl rfl rfl rfl rfl) trivial ?_
    refine s_icmp (cd := .ge) (off := 7) 13 (by decide +kernel) (by decide) (fun hc => ?_) (fun hc => ?_)
    · replace h := h.1 hc
      refine s_blk [(.iconst 0, 1, 0, 0)] 14 [some (.int (x0))] [.int (0)] w [] (by decide +kernel) (by refine qt_iconst qc_0 ?_; exact qt_z rfl rfl rfl rfl rfl) trivial ?_
      exact s_retI .boolean (by decide +kernel) rfl rfl h
    · replace h := h.2 hc
      refine s_blk [(.iconst 1, 1, 0, 0), (.goto 4, 3, 14, 0)] 14 [some (.int (x0))] [.int (1)] w [] (by decide +kernel) (by refine qt_iconst qc_1 ?_; refine qt_goto ?_; exact qt_z rfl rfl rfl rfl rfl) trivial ?_
      exact s_retI .boolean (by decide +kernel) rfl rfl h
theorem eX12_isColour {d : Nat} {x0 : Int32} {w : q_Sm} {Q : s_Po} {X : s_Xo} (h : vX12_isColour_0 d x0 w Q X) : s_Ev (d + 1) 0 mX12_isColour w [.int (x0)] Q X := s_of (by decide +kernel) rfl (Nat.le_of_ble_eq_true rfl) (xX12_isColour_0 h)
def vX12_owedTo_0 (d : Nat) (x1 : Int32) (x2 : Int32) (w : q_Sm) (Q : s_Po) (X : s_Xo) : Prop := s_Ex (d + 1) 0 mX12_owedTo 5 [some (.ref (79)), some (.int (x1)), some (.int (x2)), some (.int (0)), some (.int (0))] [] w Q X
def vX12_owedTo_5 (d : Nat) (x1 : Int32) (x2 : Int32) (x3 : Int32) (x4 : Int32) (w : q_Sm) (Q : s_Po) (X : s_Xo) : Prop := (((w.1 79 30) ≤ x4) → Q (some (.int (x3))) w) ∧ (¬ ((w.1 79 30) ≤ x4) → (vp_in (10 + x4) 63) ∧ ((¬ (w.1 104 (Int32.toNatClampNeg (10 + x4))) = x1) → s_Ex (d + 1) 0 mX12_owedTo 5 [some (.ref (79)), some (.int (x1)), some (.int (x2)), some (.int (x3 + 0)), some (.int (x4 + 1))] [] w Q X) ∧ (¬ (¬ (w.1 104 (Int32.toNatClampNeg (10 + x4))) = x1) → ((x2 = (-1)) → (vp_in (0 + x4) 63) ∧ s_Ex (d + 1) 0 mX12_owedTo 5 [some (.ref (79)), some (.int (x1)), some (.int (x2)), some (.int (x3 + (w.1 104 (Int32.toNatClampNeg (0 + x4))))), some (.int (x4 + 1))] [] w Q X) ∧ (¬ (x2 = (-1)) → s_EvI d 0 mX12_colourOf w [.ref (79), .int (x4)] (fun v2 u3 => ((¬ v2 = x2) → s_Ex (d + 1) 0 mX12_owedTo 5 [some (.ref (79)), some (.int (x1)), some (.int (x2)), some (.int (x3 + 0)), some (.int (x4 + 1))] [] u3 Q X) ∧ (¬ (¬ v2 = x2) → (vp_in (0 + x4) 63) ∧ s_Ex (d + 1) 0 mX12_owedTo 5 [some (.ref (79)), some (.int (x1)), some (.int (x2)), some (.int (x3 + (u3.1 104 (Int32.toNatClampNeg (0 + x4))))), some (.int (x4 + 1))] [] u3 Q X)) X)))
theorem xX12_owedTo_0 {d : Nat} {x1 : Int32} {x2 : Int32} {w : q_Sm} {Q : s_Po} {X : s_Xo} (h : vX12_owedTo_0 d x1 x2 w Q X) : s_Ex (d + 1) 0 mX12_owedTo 0 [some (.ref (79)), some (.int (x1)), some (.int (x2)), none, none] [] w Q X := by
  unfold vX12_owedTo_0 at h
  refine s_blk [(.iconst 0, 1, 0, 0), (.istore_n 3, 1, 0, 0), (.iconst 0, 1, 0, 0), (.istore 4, 2, 0, 0)] 5 [some (.ref (79)), some (.int (x1)), some (.int (x2)), some (.int (0)), some (.int (0))] [] w [] (by decide +kernel) (by refine qt_iconst qc_0 ?_; refine qt_istore_n (L' := [some (.ref (79)), some (.int (x1)), some (.int (x2)), some (.int (0)), none]) rfl ?_; refine qt_iconst qc_0 ?_; refine qt_istore (L' := [some (.ref (79)), some (.int (x1)), some (.int (x2)), some (.int (0)), some (.int (0))]) rfl ?_; exact qt_z rfl rfl rfl rfl rfl) trivial ?_
  exact h
theorem xX12_owedTo_5 {d : Nat} {x1 : Int32} {x2 : Int32} {x3 : Int32} {x4 : Int32} {w : q_Sm} {Q : s_Po} {X : s_Xo} (h : vX12_owedTo_5 d x1 x2 x3 x4 w Q X) : s_Ex (d + 1) 0 mX12_owedTo 5 [some (.ref (79)), some (.int (x1)), some (.int (x2)), some (.int (x3)), some (.int (x4))] [] w Q X := by
  unfold vX12_owedTo_5 at h
  refine s_blk [(.iload 4, 2, 0, 0), (.aload_n 0, 1, 0, 0), (.getfield 196, 3, 12, 30)] 11 [some (.ref (79)), some (.int (x1)), some (.int (x2)), some (.int (x3)), some (.int (x4))] [.int (w.1 79 30), .int (x4)] w [q_id 116 12 79] (by decide +kernel) (by refine qt_iload (x := x4) rfl ?_; refine qt_aload_n (r := 79) rfl ?_; refine qt_getI rfl rfl ?_; exact qt_z rfl rfl rfl rfl rfl) (q_id_of rfl) ?_
  refine s_icmp (cd := .ge) (off := 54) 65 (by decide +kernel) (by decide) (fun hc => ?_) (fun hc => ?_)
  · replace h := h.1 hc
    refine s_blk [(.iload_n 3, 1, 0, 0)] 66 [some (.ref (79)), some (.int (x1)), some (.int (x2)), some (.int (x3)), some (.int (x4))] [.int (x3)] w [] (by decide +kernel) (by refine qt_iload_n (x := x3) rfl ?_; exact qt_z rfl rfl rfl rfl rfl) trivial ?_
    exact s_retI .int (by decide +kernel) rfl rfl h
  · replace h := h.2 hc
    obtain ⟨ho5, h⟩ := h
    refine s_blk [(.iload_n 3, 1, 0, 0), (.aload_n 0, 1, 0, 0), (.getfield 89, 3, 12, 50), (.bipush 10, 2, 0, 0), (.iload 4, 2, 0, 0), (.iadd, 1, 0, 0), (.iaload, 1, 0, 0), (.iload_n 1, 1, 0, 0)] 26 [some (.ref (79)), some (.int (x1)), some (.int (x2)), some (.int (x3)), some (.int (x4))] [.int (x1), .int (w.1 104 (Int32.toNatClampNeg (10 + x4))), .int (x3)] w [q_id 116 12 79, q_id 116 14 104, vp_in (10 + x4) 63] (by decide +kernel) (by refine qt_iload_n (x := x3) rfl ?_; refine qt_aload_n (r := 79) rfl ?_; refine qt_getR (r := 104) rfl rfl rfl ?_; refine qt_bipush qb_10 ?_; refine qt_iload (x := x4) rfl ?_; refine qt_iadd ?_; refine qt_iald ?_; refine qt_iload_n (x := x1) rfl ?_; exact qt_z rfl rfl rfl rfl rfl) ⟨(q_id_of rfl), (q_id_of rfl), ho5⟩ ?_
    refine s_icmp (cd := .ne) (off := 30) 56 (by decide +kernel) (by decide) (fun hc => ?_) (fun hc => ?_)
    · replace h := h.1 hc
      refine s_blk [(.iconst 0, 1, 0, 0), (.iadd, 1, 0, 0), (.istore_n 3, 1, 0, 0), (.iinc 4 1, 3, 0, 0), (.goto (-57), 3, 5, 0)] 5 [some (.ref (79)), some (.int (x1)), some (.int (x2)), some (.int (x3 + 0)), some (.int (x4 + 1))] [] w [] (by decide +kernel) (by refine qt_iconst qc_0 ?_; refine qt_iadd ?_; refine qt_istore_n (L' := [some (.ref (79)), some (.int (x1)), some (.int (x2)), some (.int (x3 + 0)), some (.int (x4))]) rfl ?_; refine qt_iinc (x := x4) (L' := [some (.ref (79)), some (.int (x1)), some (.int (x2)), some (.int (x3 + 0)), some (.int (x4 + 1))]) rfl qc_1 rfl ?_; refine qt_goto ?_; exact qt_z rfl rfl rfl rfl rfl) trivial ?_
      exact h
    · replace h := h.2 hc
      refine s_blk [(.iload_n 2, 1, 0, 0), (.iconst (-1), 1, 0, 0)] 31 [some (.ref (79)), some (.int (x1)), some (.int (x2)), some (.int (x3)), some (.int (x4))] [.int (-1), .int (x2), .int (x3)] w [] (by decide +kernel) (by refine qt_iload_n (x := x2) rfl ?_; refine qt_iconst qc_m1 ?_; exact qt_z rfl rfl rfl rfl rfl) trivial ?_
      refine s_icmp (cd := .eq) (off := 13) 44 (by decide +kernel) (by decide) (fun hc => ?_) (fun hc => ?_)
      · replace h := h.1 hc
        obtain ⟨ho1, h⟩ := h
        refine s_blk [(.aload_n 0, 1, 0, 0), (.getfield 89, 3, 12, 50), (.iconst 0, 1, 0, 0), (.iload 4, 2, 0, 0), (.iadd, 1, 0, 0), (.iaload, 1, 0, 0), (.goto 4, 3, 57, 0), (.iadd, 1, 0, 0), (.istore_n 3, 1, 0, 0), (.iinc 4 1, 3, 0, 0), (.goto (-57), 3, 5, 0)] 5 [some (.ref (79)), some (.int (x1)), some (.int (x2)), some (.int (x3 + (w.1 104 (Int32.toNatClampNeg (0 + x4))))), some (.int (x4 + 1))] [] w [q_id 116 12 79, q_id 116 14 104, vp_in (0 + x4) 63] (by decide +kernel) (by refine qt_aload_n (r := 79) rfl ?_; refine qt_getR (r := 104) rfl rfl rfl ?_; refine qt_iconst qc_0 ?_; refine qt_iload (x := x4) rfl ?_; refine qt_iadd ?_; refine qt_iald ?_; refine qt_goto ?_; refine qt_iadd ?_; refine qt_istore_n (L' := [some (.ref (79)), some (.int (x1)), some (.int (x2)), some (.int (x3 + (w.1 104 (Int32.toNatClampNeg (0 + x4))))), some (.int (x4))]) rfl ?_; refine qt_iinc (x := x4) (L' := [some (.ref (79)), some (.int (x1)), some (.int (x2)), some (.int (x3 + (w.1 104 (Int32.toNatClampNeg (0 + x4))))), some (.int (x4 + 1))]) rfl qc_1 rfl ?_; refine qt_goto ?_; exact qt_z rfl rfl rfl rfl rfl) ⟨(q_id_of rfl), (q_id_of rfl), ho1⟩ ?_
        exact h
      · replace h := h.2 hc
        refine s_blk [(.aload_n 0, 1, 0, 0), (.iload 4, 2, 0, 0)] 37 [some (.ref (79)), some (.int (x1)), some (.int (x2)), some (.int (x3)), some (.int (x4))] [.int (x4), .ref (79), .int (x3)] w [] (by decide +kernel) (by refine qt_aload_n (r := 79) rfl ?_; refine qt_iload (x := x4) rfl ?_; exact qt_z rfl rfl rfl rfl rfl) trivial ?_
        refine s_callV (a := 0) (a' := 0) (As := [.int (x4)]) (id := 79) (st := [.int (x3)]) kX12_colourOf l_12_391 (by decide +kernel) (q_id_of rfl) rfl (Nat.le_of_ble_eq_true rfl) (s_mono h (s_I_of (fun v2 u3 h => ?_)) (fun _ _ h9 => h9))
        show s_Ex (d + 1) 0 mX12_owedTo 40 [some (.ref (79)), some (.int (x1)), some (.int (x2)), some (.int (x3)), some (.int (x4))] [.int (v2), .int (x3)] u3 Q X
        refine s_blk [(.iload_n 2, 1, 0, 0)] 41 [some (.ref (79)), some (.int (x1)), some (.int (x2)), some (.int (x3)), some (.int (x4))] [.int (x2), .int (v2), .int (x3)] u3 [] (by decide +kernel) (by refine qt_iload_n (x := x2) rfl ?_; exact qt_z rfl rfl rfl rfl rfl) trivial ?_
        refine s_icmp (cd := .ne) (off := 15) 56 (by decide +kernel) (by decide) (fun hc => ?_) (fun hc => ?_)
        · replace h := h.1 hc
          refine s_blk [(.iconst 0, 1, 0, 0), (.iadd, 1, 0, 0), (.istore_n 3, 1, 0, 0), (.iinc 4 1, 3, 0, 0), (.goto (-57), 3, 5, 0)] 5 [some (.ref (79)), some (.int (x1)), some (.int (x2)), some (.int (x3 + 0)), some (.int (x4 + 1))] [] u3 [] (by decide +kernel) (by refine qt_iconst qc_0 ?_; refine qt_iadd ?_; refine qt_istore_n (L' := [some (.ref (79)), some (.int (x1)), some (.int (x2)), some (.int (x3 + 0)), some (.int (x4))]) rfl ?_; refine qt_iinc (x := x4) (L' := [some (.ref (79)), some (.int (x1)), some (.int (x2)), some (.int (x3 + 0)), some (.int (x4 + 1))]) rfl qc_1 rfl ?_; refine qt_goto ?_; exact qt_z rfl rfl rfl rfl rfl) trivial ?_
          exact h
        · replace h := h.2 hc
          obtain ⟨ho4, h⟩ := h
          refine s_blk [(.aload_n 0, 1, 0, 0), (.getfield 89, 3, 12, 50), (.iconst 0, 1, 0, 0), (.iload 4, 2, 0, 0), (.iadd, 1, 0, 0), (.iaload, 1, 0, 0), (.goto 4, 3, 57, 0), (.iadd, 1, 0, 0), (.istore_n 3, 1, 0, 0), (.iinc 4 1, 3, 0, 0), (.goto (-57), 3, 5, 0)] 5 [some (.ref (79)), some (.int (x1)), some (.int (x2)), some (.int (x3 + (u3.1 104 (Int32.toNatClampNeg (0 + x4))))), some (.int (x4 + 1))] [] u3 [q_id 116 12 79, q_id 116 14 104, vp_in (0 + x4) 63] (by decide +kernel) (by refine qt_aload_n (r := 79) rfl ?_; refine qt_getR (r := 104) rfl rfl rfl ?_; refine qt_iconst qc_0 ?_; refine qt_iload (x := x4) rfl ?_; refine qt_iadd ?_; refine qt_iald ?_; refine qt_goto ?_; refine qt_iadd ?_; refine qt_istore_n (L' := [some (.ref (79)), some (.int (x1)), some (.int (x2)), some (.int (x3 + (u3.1 104 (Int32.toNatClampNeg (0 + x4))))), some (.int (x4))]) rfl ?_; refine qt_iinc (x := x4) (L' := [some (.ref (79)), some (.int (x1)), some (.int (x2)), some (.int (x3 + (u3.1 104 (Int32.toNatClampNeg (0 + x4))))), some (.int (x4 + 1))]) rfl qc_1 rfl ?_; refine qt_goto ?_; exact qt_z rfl rfl rfl rfl rfl) ⟨(q_id_of rfl), (q_id_of rfl), ho4⟩ ?_
          exact h
theorem eX12_owedTo {d : Nat} {x1 : Int32} {x2 : Int32} {w : q_Sm} {Q : s_Po} {X : s_Xo} (h : vX12_owedTo_0 d x1 x2 w Q X) : s_Ev (d + 1) 0 mX12_owedTo w [.ref (79), .int (x1), .int (x2)] Q X := s_of (by decide +kernel) rfl (Nat.le_of_ble_eq_true rfl) (xX12_owedTo_0 h)
def vX12_creditor_0 (d : Nat) (x1 : Int32) (x2 : Int32) (w : q_Sm) (Q : s_Po) (X : s_Xo) : Prop := ∀ w_1 : q_Sm, w_1 = q_wI w 79 0 0 → s_EvI d 0 mX12_isCreditor_ w_1 [.ref (79), .int (x1), .int (1)] (fun v2 u3 => ((v2 = 0) → Q (some (.int (0))) u3) ∧ (¬ (v2 = 0) → s_EvI d 0 mX12_within u3 [.int (x2), .int (0), .int (3)] (fun v4 u5 => s_EvI d 0 mX12_may u5 [.ref (79), .int (v4), .int (2), .int (1)] (fun v6 u7 => ((¬ v6 = 0) → ((2 ≤ x2) → ((¬ x2 = 3) → s_Ex (d + 1) 0 mX12_creditor 64 [some (.ref (79)), some (.int (x1)), none, some (.int (0)), some (.int (0))] [] u7 Q X) ∧ (¬ (¬ x2 = 3) → s_EvI d 0 mX12_owedTo u7 [.ref (79), .int (x1), .int (-1)] (fun v8 u9 => Q (some (.int (v8))) u9) X)) ∧ (¬ (2 ≤ x2) → (vp_in ((2 * x1) + x2) 12) ∧ Q (some (.int (u7.1 89 (Int32.toNatClampNeg ((2 * x1) + x2))))) u7)) ∧ (¬ (¬ v6 = 0) → Q (some (.int (0))) u7)) X) X)) X
def vX12_creditor_64 (d : Nat) (x1 : Int32) (x3 : Int32) (x4 : Int32) (w : q_Sm) (Q : s_Po) (X : s_Xo) : Prop := (((w.1 79 30) ≤ x4) → Q (some (.int (x3))) w) ∧ (¬ ((w.1 79 30) ≤ x4) → (vp_in (10 + x4) 63) ∧ ((¬ (w.1 104 (Int32.toNatClampNeg (10 + x4))) = x1) → s_Ex (d + 1) 0 mX12_creditor 64 [some (.ref (79)), some (.int (x1)), none, some (.int (x3 + 0)), some (.int (x4 + 1))] [] w Q X) ∧ (¬ (¬ (w.1 104 (Int32.toNatClampNeg (10 + x4))) = x1) → (vp_in (0 + x4) 63) ∧ (((w.1 104 (Int32.toNatClampNeg (0 + x4))) ≤ 0) → s_Ex (d + 1) 0 mX12_creditor 64 [some (.ref (79)), some (.int (x1)), none, some (.int (x3 + 0)), some (.int (x4 + 1))] [] w Q X) ∧ (¬ ((w.1 104 (Int32.toNatClampNeg (0 + x4))) ≤ 0) → s_Ex (d + 1) 0 mX12_creditor 64 [some (.ref (79)), some (.int (x1)), none, some (.int (x3 + 1)), some (.int (x4 + 1))] [] w Q X)))
theorem xX12_creditor_0 {d : Nat} {x1 : Int32} {x2 : Int32} {w : q_Sm} {Q : s_Po} {X : s_Xo} (h : vX12_creditor_0 d x1 x2 w Q X) : s_Ex (d + 1) 0 mX12_creditor 0 [some (.ref (79)), some (.int (x1)), some (.int (x2)), none, none] [] w Q X := by
  unfold vX12_creditor_0 at h
  replace h := h _ rfl
  refine s_blk [(.aload_n 0, 1, 0, 0), (.iconst 0, 1, 0, 0), (.putfield 3, 3, 12, 0), (.aload_n 0, 1, 0, 0), (.iload_n 1, 1, 0, 0), (.iconst 1, 1, 0, 0)] 8 [some (.ref (79)), some (.int (x1)), some (.int (x2)), none, none] [.int (1), .int (x1), .ref (79)] (q_wI w 79 0 0) [q_id 116 12 79] (by decide +kernel) (by refine qt_aload_n (r := 79) rfl ?_; refine qt_iconst qc_0 ?_; refine qt_putI rfl ?_; refine qt_aload_n (r := 79) rfl ?_; refine qt_iload_n (x := x1) rfl ?_; refine qt_iconst qc_1 ?_; exact qt_z rfl rfl rfl rfl rfl) (q_id_of rfl) ?_
  refine s_callV (a := 0) (a' := 0) (As := [.int (x1), .int (1)]) (id := 79) (st := []) kX12_isCreditor_ l_12_419 (by decide +kernel) (q_id_of rfl) rfl (Nat.le_of_ble_eq_true rfl) (s_mono h (s_I_of (fun v2 u3 h => ?_)) (fun _ _ h9 => h9))
  show s_Ex (d + 1) 0 mX12_creditor 11 [some (.ref (79)), some (.int (x1)), some (.int (x2)), none, none] [.int (v2)] u3 Q X
  refine s_if (cd := .eq) (off := 18) 29 (by decide +kernel) (by decide) (fun hc => ?_) (fun hc => ?_)
  · replace h := h.1 hc
    refine s_blk [(.iconst 0, 1, 0, 0)] 30 [some (.ref (79)), some (.int (x1)), some (.int (x2)), none, none] [.int (0)] u3 [] (by decide +kernel) (by refine qt_iconst qc_0 ?_; exact qt_z rfl rfl rfl rfl rfl) trivial ?_
    exact s_retI .int (by decide +kernel) rfl rfl h
  · replace h := h.2 hc
    refine s_blk [(.aload_n 0, 1, 0, 0), (.iload_n 2, 1, 0, 0), (.iconst 0, 1, 0, 0), (.iconst 3, 1, 0, 0)] 18 [some (.ref (79)), some (.int (x1)), some (.int (x2)), none, none] [.int (3), .int (0), .int (x2), .ref (79)] u3 [] (by decide +kernel) (by refine qt_aload_n (r := 79) rfl ?_; refine qt_iload_n (x := x2) rfl ?_; refine qt_iconst qc_0 ?_; refine qt_iconst qc_3 ?_; exact qt_z rfl rfl rfl rfl rfl) trivial ?_
    refine s_callS (a := 0) (a' := 0) (As := [.int (x2), .int (0), .int (3)]) (st := [.ref (79)]) kX12_within l_12_410 (by decide +kernel) rfl (Nat.le_of_ble_eq_true rfl) (s_mono h (s_I_of (fun v4 u5 h => ?_)) (fun _ _ h9 => h9))
    show s_Ex (d + 1) 0 mX12_creditor 21 [some (.ref (79)), some (.int (x1)), some (.int (x2)), none, none] [.int (v4), .ref (79)] u5 Q X
    refine s_blk [(.iconst 2, 1, 0, 0), (.iconst 1, 1, 0, 0)] 23 [some (.ref (79)), some (.int (x1)), some (.int (x2)), none, none] [.int (1), .int (2), .int (v4), .ref (79)] u5 [] (by decide +kernel) (by refine qt_iconst qc_2 ?_; refine qt_iconst qc_1 ?_; exact qt_z rfl rfl rfl rfl rfl) trivial ?_
    refine s_callV (a := 0) (a' := 0) (As := [.int (v4), .int (2), .int (1)]) (id := 79) (st := []) kX12_may l_12_270 (by decide +kernel) (q_id_of rfl) rfl (Nat.le_of_ble_eq_true rfl) (s_mono h (s_I_of (fun v6 u7 h => ?_)) (fun _ _ h9 => h9))
    show s_Ex (d + 1) 0 mX12_creditor 26 [some (.ref (79)), some (.int (x1)), some (.int (x2)), none, none] [.int (v6)] u7 Q X
    refine s_if (cd := .ne) (off := 5) 31 (by decide +kernel) (by decide) (fun hc => ?_) (fun hc => ?_)
    · replace h := h.1 hc
      refine s_blk [(.iload_n 2, 1, 0, 0), (.iconst 2, 1, 0, 0)] 33 [some (.ref (79)), some (.int (x1)), some (.int (x2)), none, none] [.int (2), .int (x2)] u7 [] (by decide +kernel) (by refine qt_iload_n (x := x2) rfl ?_; refine qt_iconst qc_2 ?_; exact qt_z rfl rfl rfl rfl rfl) trivial ?_
      refine s_icmp (cd := .ge) (off := 14) 47 (by decide +kernel) (by decide) (fun hc => ?_) (fun hc => ?_)
      · replace h := h.1 hc
        refine s_blk [(.iload_n 2, 1, 0, 0), (.iconst 3, 1, 0, 0)] 49 [some (.ref (79)), some (.int (x1)), some (.int (x2)), none, none] [.int (3), .int (x2)] u7 [] (by decide +kernel) (by refine qt_iload_n (x := x2) rfl ?_; refine qt_iconst qc_3 ?_; exact qt_z rfl rfl rfl rfl rfl) trivial ?_
        refine s_icmp (cd := .ne) (off := 10) 59 (by decide +kernel) (by decide) (fun hc => ?_) (fun hc => ?_)
        · replace h := h.1 hc
          refine s_blk [(.iconst 0, 1, 0, 0), (.istore_n 3, 1, 0, 0), (.iconst 0, 1, 0, 0), (.istore 4, 2, 0, 0), (.nop, 0, 2, 0)] 64 [some (.ref (79)), some (.int (x1)), none, some (.int (0)), some (.int (0))] [] u7 [] (by decide +kernel) (by refine qt_iconst qc_0 ?_; refine qt_istore_n (L' := [some (.ref (79)), some (.int (x1)), some (.int (x2)), some (.int (0)), none]) rfl ?_; refine qt_iconst qc_0 ?_; refine qt_istore (L' := [some (.ref (79)), some (.int (x1)), some (.int (x2)), some (.int (0)), some (.int (0))]) rfl ?_; refine qt_nop (L' := [some (.ref (79)), some (.int (x1)), none, some (.int (0)), some (.int (0))]) rfl ?_; exact qt_z rfl rfl rfl rfl rfl) trivial ?_
          exact h
        · replace h := h.2 hc
          refine s_blk [(.aload_n 0, 1, 0, 0), (.iload_n 1, 1, 0, 0), (.iconst (-1), 1, 0, 0)] 55 [some (.ref (79)), some (.int (x1)), some (.int (x2)), none, none] [.int (-1), .int (x1), .ref (79)] u7 [] (by decide +kernel) (by refine qt_aload_n (r := 79) rfl ?_; refine qt_iload_n (x := x1) rfl ?_; refine qt_iconst qc_m1 ?_; exact qt_z rfl rfl rfl rfl rfl) trivial ?_
          refine s_callV (a := 0) (a' := 0) (As := [.int (x1), .int (-1)]) (id := 79) (st := []) kX12_owedTo l_12_421 (by decide +kernel) (q_id_of rfl) rfl (Nat.le_of_ble_eq_true rfl) (s_mono h (s_I_of (fun v8 u9 h => ?_)) (fun _ _ h9 => h9))
          show s_Ex (d + 1) 0 mX12_creditor 58 [some (.ref (79)), some (.int (x1)), some (.int (x2)), none, none] [.int (v8)] u9 Q X
          exact s_retI .int (by decide +kernel) rfl rfl h
      · replace h := h.2 hc
        obtain ⟨ho10, h⟩ := h
        refine s_blk [(.aload_n 0, 1, 0, 0), (.getfield 44, 3, 12, 17), (.iconst 2, 1, 0, 0), (.iload_n 1, 1, 0, 0), (.imul, 1, 0, 0), (.iload_n 2, 1, 0, 0), (.iadd, 1, 0, 0), (.iaload, 1, 0, 0)] 46 [some (.ref (79)), some (.int (x1)), some (.int (x2)), none, none] [.int (u7.1 89 (Int32.toNatClampNeg ((2 * x1) + x2)))] u7 [q_id 116 12 79, q_id 116 14 89, vp_in ((2 * x1) + x2) 12] (by decide +kernel) (by refine qt_aload_n (r := 79) rfl ?_; refine qt_getR (r := 89) rfl rfl rfl ?_; refine qt_iconst qc_2 ?_; refine qt_iload_n (x := x1) rfl ?_; refine qt_imul ?_; refine qt_iload_n (x := x2) rfl ?_; refine qt_iadd ?_; refine qt_iald ?_; exact qt_z rfl rfl rfl rfl rfl) ⟨(q_id_of rfl), (q_id_of rfl), ho10⟩ ?_
        exact s_retI .int (by decide +kernel) rfl rfl h
    · replace h := h.2 hc
      refine s_blk [(.iconst 0, 1, 0, 0)] 30 [some (.ref (79)), some (.int (x1)), some (.int (x2)), none, none] [.int (0)] u7 [] (by decide +kernel) (by refine qt_iconst qc_0 ?_; exact qt_z rfl rfl rfl rfl rfl) trivial ?_
      exact s_retI .int (by decide +kernel) rfl rfl h
theorem xX12_creditor_64 {d : Nat} {x1 : Int32} {x3 : Int32} {x4 : Int32} {w : q_Sm} {Q : s_Po} {X : s_Xo} (h : vX12_creditor_64 d x1 x3 x4 w Q X) : s_Ex (d + 1) 0 mX12_creditor 64 [some (.ref (79)), some (.int (x1)), none, some (.int (x3)), some (.int (x4))] [] w Q X := by
  unfold vX12_creditor_64 at h
  refine s_blk [(.iload 4, 2, 0, 0), (.aload_n 0, 1, 0, 0), (.getfield 196, 3, 12, 30)] 70 [some (.ref (79)), some (.int (x1)), none, some (.int (x3)), some (.int (x4))] [.int (w.1 79 30), .int (x4)] w [q_id 116 12 79] (by decide +kernel) (by refine qt_iload (x := x4) rfl ?_; refine qt_aload_n (r := 79) rfl ?_; refine qt_getI rfl rfl ?_; exact qt_z rfl rfl rfl rfl rfl) (q_id_of rfl) ?_
  refine s_icmp (cd := .ge) (off := 43) 113 (by decide +kernel) (by decide) (fun hc => ?_) (fun hc => ?_)
  · replace h := h.1 hc
    refine s_blk [(.iload_n 3, 1, 0, 0)] 114 [some (.ref (79)), some (.int (x1)), none, some (.int (x3)), some (.int (x4))] [.int (x3)] w [] (by decide +kernel) (by refine qt_iload_n (x := x3) rfl ?_; exact qt_z rfl rfl rfl rfl rfl) trivial ?_
    exact s_retI .int (by decide +kernel) rfl rfl h
  · replace h := h.2 hc
    obtain ⟨ho12, h⟩ := h
    refine s_blk [(.iload_n 3, 1, 0, 0), (.aload_n 0, 1, 0, 0), (.getfield 89, 3, 12, 50), (.bipush 10, 2, 0, 0), (.iload 4, 2, 0, 0), (.iadd, 1, 0, 0), (.iaload, 1, 0, 0), (.iload_n 1, 1, 0, 0)] 85 [some (.ref (79)), some (.int (x1)), none, some (.int (x3)), some (.int (x4))] [.int (x1), .int (w.1 104 (Int32.toNatClampNeg (10 + x4))), .int (x3)] w [q_id 116 12 79, q_id 116 14 104, vp_in (10 + x4) 63] (by decide +kernel) (by refine qt_iload_n (x := x3) rfl ?_; refine qt_aload_n (r := 79) rfl ?_; refine qt_getR (r := 104) rfl rfl rfl ?_; refine qt_bipush qb_10 ?_; refine qt_iload (x := x4) rfl ?_; refine qt_iadd ?_; refine qt_iald ?_; refine qt_iload_n (x := x1) rfl ?_; exact qt_z rfl rfl rfl rfl rfl) ⟨(q_id_of rfl), (q_id_of rfl), ho12⟩ ?_
    refine s_icmp (cd := .ne) (off := 19) 104 (by decide +kernel) (by decide) (fun hc => ?_) (fun hc => ?_)
    · replace h := h.1 hc
      refine s_blk [(.iconst 0, 1, 0, 0), (.iadd, 1, 0, 0), (.istore_n 3, 1, 0, 0), (.iinc 4 1, 3, 0, 0), (.goto (-46), 3, 64, 0)] 64 [some (.ref (79)), some (.int (x1)), none, some (.int (x3 + 0)), some (.int (x4 + 1))] [] w [] (by decide +kernel) (by refine qt_iconst qc_0 ?_; refine qt_iadd ?_; refine qt_istore_n (L' := [some (.ref (79)), some (.int (x1)), none, some (.int (x3 + 0)), some (.int (x4))]) rfl ?_; refine qt_iinc (x := x4) (L' := [some (.ref (79)), some (.int (x1)), none, some (.int (x3 + 0)), some (.int (x4 + 1))]) rfl qc_1 rfl ?_; refine qt_goto ?_; exact qt_z rfl rfl rfl rfl rfl) trivial ?_
      exact h
    · replace h := h.2 hc
      obtain ⟨ho11, h⟩ := h
      refine s_blk [(.aload_n 0, 1, 0, 0), (.getfield 89, 3, 12, 50), (.iconst 0, 1, 0, 0), (.iload 4, 2, 0, 0), (.iadd, 1, 0, 0), (.iaload, 1, 0, 0)] 97 [some (.ref (79)), some (.int (x1)), none, some (.int (x3)), some (.int (x4))] [.int (w.1 104 (Int32.toNatClampNeg (0 + x4))), .int (x3)] w [q_id 116 12 79, q_id 116 14 104, vp_in (0 + x4) 63] (by decide +kernel) (by refine qt_aload_n (r := 79) rfl ?_; refine qt_getR (r := 104) rfl rfl rfl ?_; refine qt_iconst qc_0 ?_; refine qt_iload (x := x4) rfl ?_; refine qt_iadd ?_; refine qt_iald ?_; exact qt_z rfl rfl rfl rfl rfl) ⟨(q_id_of rfl), (q_id_of rfl), ho11⟩ ?_
      refine s_if (cd := .le) (off := 7) 104 (by decide +kernel) (by decide) (fun hc => ?_) (fun hc => ?_)
      · replace h := h.1 hc
        refine s_blk [(.iconst 0, 1, 0, 0), (.iadd, 1, 0, 0), (.istore_n 3, 1, 0, 0), (.iinc 4 1, 3, 0, 0), (.goto (-46), 3, 64, 0)] 64 [some (.ref (79)), some (.int (x1)), none, some (.int (x3 + 0)), some (.int (x4 + 1))] [] w [] (by decide +kernel) (by refine qt_iconst qc_0 ?_; refine qt_iadd ?_; refine qt_istore_n (L' := [some (.ref (79)), some (.int (x1)), none, some (.int (x3 + 0)), some (.int (x4))]) rfl ?_; refine qt_iinc (x := x4) (L' := [some (.ref (79)), some (.int (x1)), none, some (.int (x3 + 0)), some (.int (x4 + 1))]) rfl qc_1 rfl ?_; refine qt_goto ?_; exact qt_z rfl rfl rfl rfl rfl) trivial ?_
        exact h
      · replace h := h.2 hc
        refine s_blk [(.iconst 1, 1, 0, 0), (.goto 4, 3, 105, 0), (.iadd, 1, 0, 0), (.istore_n 3, 1, 0, 0), (.iinc 4 1, 3, 0, 0), (.goto (-46), 3, 64, 0)] 64 [some (.ref (79)), some (.int (x1)), none, some (.int (x3 + 1)), some (.int (x4 + 1))] [] w [] (by decide +kernel) (by refine qt_iconst qc_1 ?_; refine qt_goto ?_; refine qt_iadd ?_; refine qt_istore_n (L' := [some (.ref (79)), some (.int (x1)), none, some (.int (x3 + 1)), some (.int (x4))]) rfl ?_; refine qt_iinc (x := x4) (L' := [some (.ref (79)), some (.int (x1)), none, some (.int (x3 + 1)), some (.int (x4 + 1))]) rfl qc_1 rfl ?_; refine qt_goto ?_; exact qt_z rfl rfl rfl rfl rfl) trivial ?_
        exact h
theorem eX12_creditor {d : Nat} {x1 : Int32} {x2 : Int32} {w : q_Sm} {Q : s_Po} {X : s_Xo} (h : vX12_creditor_0 d x1 x2 w Q X) : s_Ev (d + 1) 0 mX12_creditor w [.ref (79), .int (x1), .int (x2)] Q X := s_of (by decide +kernel) rfl (Nat.le_of_ble_eq_true rfl) (xX12_creditor_0 h)
def vX12_debt_0 (d : Nat) (x1 : Int32) (x2 : Int32) (w : q_Sm) (Q : s_Po) (X : s_Xo) : Prop := ∀ w_1 : q_Sm, w_1 = q_wI w 79 0 0 → s_EvI d 0 mX12_isDebt w_1 [.ref (79), .int (x1), .int (1)] (fun v2 u3 => ((v2 = 0) → Q (some (.int (0))) u3) ∧ (¬ (v2 = 0) → s_EvI d 0 mX12_within u3 [.int (x2), .int (0), .int (6)] (fun v4 u5 => s_EvI d 0 mX12_may u5 [.ref (79), .int (v4), .int (2), .int (1)] (fun v6 u7 => ((¬ v6 = 0) → ((3 ≤ x2) → ((5 ≤ x2) → ((¬ x2 = 5) → (vp_in (30 + x1) 63) ∧ Q (some (.int (u7.1 104 (Int32.toNatClampNeg (30 + x1))))) u7) ∧ (¬ (¬ x2 = 5) → (vp_in (20 + x1) 63) ∧ Q (some (.int (u7.1 104 (Int32.toNatClampNeg (20 + x1))))) u7)) ∧ (¬ (5 ≤ x2) → (vp_in ((5 * x1) + x2) 50) ∧ Q (some (.int (u7.1 90 (Int32.toNatClampNeg ((5 * x1) + x2))))) u7)) ∧ (¬ (3 ≤ x2) → ((¬ x2 = 0) → ((¬ x2 = 1) → (vp_in (0 + x1) 63) ∧ Q (some (.int (u7.1 104 (Int32.toNatClampNeg (0 + x1))))) u7) ∧ (¬ (¬ x2 = 1) → s_EvI d 0 mX12_colourOf u7 [.ref (79), .int (x1)] (fun v12 u13 => Q (some (.int (v12))) u13) X)) ∧ (¬ (¬ x2 = 0) → (vp_in (10 + x1) 63) ∧ Q (some (.int (u7.1 104 (Int32.toNatClampNeg (10 + x1))))) u7))) ∧ (¬ (¬ v6 = 0) → Q (some (.int (0))) u7)) X) X)) X
theorem xX12_debt_0 {d : Nat} {x1 : Int32} {x2 : Int32} {w : q_Sm} {Q : s_Po} {X : s_Xo} (h : vX12_debt_0 d x1 x2 w Q X) : s_Ex (d + 1) 0 mX12_debt 0 [some (.ref (79)), some (.int (x1)), some (.int (x2))] [] w Q X := by
  unfold vX12_debt_0 at h
  replace h := h _ rfl
  refine s_blk [(.aload_n 0, 1, 0, 0), (.iconst 0, 1, 0, 0), (.putfield 3, 3, 12, 0), (.aload_n 0, 1, 0, 0), (.iload_n 1, 1, 0, 0), (.iconst 1, 1, 0, 0)] 8 [some (.ref (79)), some (.int (x1)), some (.int (x2))] [.int (1), .int (x1), .ref (79)] (q_wI w 79 0 0) [q_id 116 12 79] (by decide +kernel) (by refine qt_aload_n (r := 79) rfl ?_; refine qt_iconst qc_0 ?_; refine qt_putI rfl ?_; refine qt_aload_n (r := 79) rfl ?_; refine qt_iload_n (x := x1) rfl ?_; refine qt_iconst qc_1 ?_; exact qt_z rfl rfl rfl rfl rfl) (q_id_of rfl) ?_
  refine s_callV (a := 0) (a' := 0) (As := [.int (x1), .int (1)]) (id := 79) (st := []) kX12_isDebt l_12_424 (by decide +kernel) (q_id_of rfl) rfl (Nat.le_of_ble_eq_true rfl) (s_mono h (s_I_of (fun v2 u3 h => ?_)) (fun _ _ h9 => h9))
  show s_Ex (d + 1) 0 mX12_debt 11 [some (.ref (79)), some (.int (x1)), some (.int (x2))] [.int (v2)] u3 Q X
  refine s_if (cd := .eq) (off := 19) 30 (by decide +kernel) (by decide) (fun hc => ?_) (fun hc => ?_)
  · replace h := h.1 hc
    refine s_blk [(.iconst 0, 1, 0, 0)] 31 [some (.ref (79)), some (.int (x1)), some (.int (x2))] [.int (0)] u3 [] (by decide +kernel) (by refine qt_iconst qc_0 ?_; exact qt_z rfl rfl rfl rfl rfl) trivial ?_
    exact s_retI .int (by decide +kernel) rfl rfl h
  · replace h := h.2 hc
    refine s_blk [(.aload_n 0, 1, 0, 0), (.iload_n 2, 1, 0, 0), (.iconst 0, 1, 0, 0), (.bipush 6, 2, 0, 0)] 19 [some (.ref (79)), some (.int (x1)), some (.int (x2))] [.int (6), .int (0), .int (x2), .ref (79)] u3 [] (by decide +kernel) (by refine qt_aload_n (r := 79) rfl ?_; refine qt_iload_n (x := x2) rfl ?_; refine qt_iconst qc_0 ?_; refine qt_bipush qb_6 ?_; exact qt_z rfl rfl rfl rfl rfl) trivial ?_
    refine s_callS (a := 0) (a' := 0) (As := [.int (x2), .int (0), .int (6)]) (st := [.ref (79)]) kX12_within l_12_410 (by decide +kernel) rfl (Nat.le_of_ble_eq_true rfl) (s_mono h (s_I_of (fun v4 u5 h => ?_)) (fun _ _ h9 => h9))
    show s_Ex (d + 1) 0 mX12_debt 22 [some (.ref (79)), some (.int (x1)), some (.int (x2))] [.int (v4), .ref (79)] u5 Q X
    refine s_blk [(.iconst 2, 1, 0, 0), (.iconst 1, 1, 0, 0)] 24 [some (.ref (79)), some (.int (x1)), some (.int (x2))] [.int (1), .int (2), .int (v4), .ref (79)] u5 [] (by decide +kernel) (by refine qt_iconst qc_2 ?_; refine qt_iconst qc_1 ?_; exact qt_z rfl rfl rfl rfl rfl) trivial ?_
    refine s_callV (a := 0) (a' := 0) (As := [.int (v4), .int (2), .int (1)]) (id := 79) (st := []) kX12_may l_12_270 (by decide +kernel) (q_id_of rfl) rfl (Nat.le_of_ble_eq_true rfl) (s_mono h (s_I_of (fun v6 u7 h => ?_)) (fun _ _ h9 => h9))
    show s_Ex (d + 1) 0 mX12_debt 27 [some (.ref (79)), some (.int (x1)), some (.int (x2))] [.int (v6)] u7 Q X
    refine s_if (cd := .ne) (off := 5) 32 (by decide +kernel) (by decide) (fun hc => ?_) (fun hc => ?_)
    · replace h := h.1 hc
      refine s_blk [(.iload_n 2, 1, 0, 0), (.iconst 3, 1, 0, 0)] 34 [some (.ref (79)), some (.int (x1)), some (.int (x2))] [.int (3), .int (x2)] u7 [] (by decide +kernel) (by refine qt_iload_n (x := x2) rfl ?_; refine qt_iconst qc_3 ?_; exact qt_z rfl rfl rfl rfl rfl) trivial ?_
      refine s_icmp (cd := .ge) (off := 41) 75 (by decide +kernel) (by decide) (fun hc => ?_) (fun hc => ?_)
      · replace h := h.1 hc
        refine s_blk [(.iload_n 2, 1, 0, 0), (.iconst 5, 1, 0, 0)] 77 [some (.ref (79)), some (.int (x1)), some (.int (x2))] [.int (5), .int (x2)] u7 [] (by decide +kernel) (by refine qt_iload_n (x := x2) rfl ?_; refine qt_iconst qc_5 ?_; exact qt_z rfl rfl rfl rfl rfl) trivial ?_
        refine s_icmp (cd := .ge) (off := 16) 93 (by decide +kernel) (by decide) (fun hc => ?_) (fun hc => ?_)
        · replace h := h.1 hc
          refine s_blk [(.iload_n 2, 1, 0, 0), (.iconst 5, 1, 0, 0)] 95 [some (.ref (79)), some (.int (x1)), some (.int (x2))] [.int (5), .int (x2)] u7 [] (by decide +kernel) (by refine qt_iload_n (x := x2) rfl ?_; refine qt_iconst qc_5 ?_; exact qt_z rfl rfl rfl rfl rfl) trivial ?_
          refine s_icmp (cd := .ne) (off := 15) 110 (by decide +kernel) (by decide) (fun hc => ?_) (fun hc => ?_)
          · replace h := h.1 hc
            obtain ⟨ho8, h⟩ := h
            refine s_blk [(.aload_n 0, 1, 0, 0), (.getfield 89, 3, 12, 50), (.bipush 30, 2, 0, 0), (.iload_n 1, 1, 0, 0), (.iadd, 1, 0, 0), (.iaload, 1, 0, 0)] 119 [some (.ref (79)), some (.int (x1)), some (.int (x2))] [.int (u7.1 104 (Int32.toNatClampNeg (30 + x1)))] u7 [q_id 116 12 79, q_id 116 14 104, vp_in (30 + x1) 63] (by decide +kernel) (by refine qt_aload_n (r := 79) rfl ?_; refine qt_getR (r := 104) rfl rfl rfl ?_; refine qt_bipush qb_30 ?_; refine qt_iload_n (x := x1) rfl ?_; refine qt_iadd ?_; refine qt_iald ?_; exact qt_z rfl rfl rfl rfl rfl) ⟨(q_id_of rfl), (q_id_of rfl), ho8⟩ ?_
            exact s_retI .int (by decide +kernel) rfl rfl h
          · replace h := h.2 hc
            obtain ⟨ho9, h⟩ := h
            refine s_blk [(.aload_n 0, 1, 0, 0), (.getfield 89, 3, 12, 50), (.bipush 20, 2, 0, 0), (.iload_n 1, 1, 0, 0), (.iadd, 1, 0, 0), (.iaload, 1, 0, 0), (.goto 12, 3, 119, 0)] 119 [some (.ref (79)), some (.int (x1)), some (.int (x2))] [.int (u7.1 104 (Int32.toNatClampNeg (20 + x1)))] u7 [q_id 116 12 79, q_id 116 14 104, vp_in (20 + x1) 63] (by decide +kernel) (by refine qt_aload_n (r := 79) rfl ?_; refine qt_getR (r := 104) rfl rfl rfl ?_; refine qt_bipush qb_20 ?_; refine qt_iload_n (x := x1) rfl ?_; refine qt_iadd ?_; refine qt_iald ?_; refine qt_goto ?_; exact qt_z rfl rfl rfl rfl rfl) ⟨(q_id_of rfl), (q_id_of rfl), ho9⟩ ?_
            exact s_retI .int (by decide +kernel) rfl rfl h
        · replace h := h.2 hc
          obtain ⟨ho10, h⟩ := h
          refine s_blk [(.aload_n 0, 1, 0, 0), (.getfield 47, 3, 12, 18), (.iconst 5, 1, 0, 0), (.iload_n 1, 1, 0, 0), (.imul, 1, 0, 0), (.iload_n 2, 1, 0, 0), (.iadd, 1, 0, 0), (.iaload, 1, 0, 0), (.goto 29, 3, 119, 0)] 119 [some (.ref (79)), some (.int (x1)), some (.int (x2))] [.int (u7.1 90 (Int32.toNatClampNeg ((5 * x1) + x2)))] u7 [q_id 116 12 79, q_id 116 14 90, vp_in ((5 * x1) + x2) 50] (by decide +kernel) (by refine qt_aload_n (r := 79) rfl ?_; refine qt_getR (r := 90) rfl rfl rfl ?_; refine qt_iconst qc_5 ?_; refine qt_iload_n (x := x1) rfl ?_; refine qt_imul ?_; refine qt_iload_n (x := x2) rfl ?_; refine qt_iadd ?_; refine qt_iald ?_; refine qt_goto ?_; exact qt_z rfl rfl rfl rfl rfl) ⟨(q_id_of rfl), (q_id_of rfl), ho10⟩ ?_
          exact s_retI .int (by decide +kernel) rfl rfl h
      · replace h := h.2 hc
        refine s_blk [(.iload_n 2, 1, 0, 0)] 38 [some (.ref (79)), some (.int (x1)), some (.int (x2))] [.int (x2)] u7 [] (by decide +kernel) (by refine qt_iload_n (x := x2) rfl ?_; exact qt_z rfl rfl rfl rfl rfl) trivial ?_
        refine s_if (cd := .ne) (off := 15) 53 (by decide +kernel) (by decide) (fun hc => ?_) (fun hc => ?_)
        · replace h := h.1 hc
          refine s_blk [(.iload_n 2, 1, 0, 0), (.iconst 1, 1, 0, 0)] 55 [some (.ref (79)), some (.int (x1)), some (.int (x2))] [.int (1), .int (x2)] u7 [] (by decide +kernel) (by refine qt_iload_n (x := x2) rfl ?_; refine qt_iconst qc_1 ?_; exact qt_z rfl rfl rfl rfl rfl) trivial ?_
          refine s_icmp (cd := .ne) (off := 11) 66 (by decide +kernel) (by decide) (fun hc => ?_) (fun hc => ?_)
          · replace h := h.1 hc
            obtain ⟨ho11, h⟩ := h
            refine s_blk [(.aload_n 0, 1, 0, 0), (.getfield 89, 3, 12, 50), (.iconst 0, 1, 0, 0), (.iload_n 1, 1, 0, 0), (.iadd, 1, 0, 0), (.iaload, 1, 0, 0)] 74 [some (.ref (79)), some (.int (x1)), some (.int (x2))] [.int (u7.1 104 (Int32.toNatClampNeg (0 + x1)))] u7 [q_id 116 12 79, q_id 116 14 104, vp_in (0 + x1) 63] (by decide +kernel) (by refine qt_aload_n (r := 79) rfl ?_; refine qt_getR (r := 104) rfl rfl rfl ?_; refine qt_iconst qc_0 ?_; refine qt_iload_n (x := x1) rfl ?_; refine qt_iadd ?_; refine qt_iald ?_; exact qt_z rfl rfl rfl rfl rfl) ⟨(q_id_of rfl), (q_id_of rfl), ho11⟩ ?_
            exact s_retI .int (by decide +kernel) rfl rfl h
          · replace h := h.2 hc
            refine s_blk [(.aload_n 0, 1, 0, 0), (.iload_n 1, 1, 0, 0)] 60 [some (.ref (79)), some (.int (x1)), some (.int (x2))] [.int (x1), .ref (79)] u7 [] (by decide +kernel) (by refine qt_aload_n (r := 79) rfl ?_; refine qt_iload_n (x := x1) rfl ?_; exact qt_z rfl rfl rfl rfl rfl) trivial ?_
            refine s_callV (a := 0) (a' := 0) (As := [.int (x1)]) (id := 79) (st := []) kX12_colourOf l_12_391 (by decide +kernel) (q_id_of rfl) rfl (Nat.le_of_ble_eq_true rfl) (s_mono h (s_I_of (fun v12 u13 h => ?_)) (fun _ _ h9 => h9))
            show s_Ex (d + 1) 0 mX12_debt 63 [some (.ref (79)), some (.int (x1)), some (.int (x2))] [.int (v12)] u13 Q X
            refine s_blk [(.goto 11, 3, 74, 0)] 74 [some (.ref (79)), some (.int (x1)), some (.int (x2))] [.int (v12)] u13 [] (by decide +kernel) (by refine qt_goto ?_; exact qt_z rfl rfl rfl rfl rfl) trivial ?_
            exact s_retI .int (by decide +kernel) rfl rfl h
        · replace h := h.2 hc
          obtain ⟨ho14, h⟩ := h
          refine s_blk [(.aload_n 0, 1, 0, 0), (.getfield 89, 3, 12, 50), (.bipush 10, 2, 0, 0), (.iload_n 1, 1, 0, 0), (.iadd, 1, 0, 0), (.iaload, 1, 0, 0), (.goto 24, 3, 74, 0)] 74 [some (.ref (79)), some (.int (x1)), some (.int (x2))] [.int (u7.1 104 (Int32.toNatClampNeg (10 + x1)))] u7 [q_id 116 12 79, q_id 116 14 104, vp_in (10 + x1) 63] (by decide +kernel) (by refine qt_aload_n (r := 79) rfl ?_; refine qt_getR (r := 104) rfl rfl rfl ?_; refine qt_bipush qb_10 ?_; refine qt_iload_n (x := x1) rfl ?_; refine qt_iadd ?_; refine qt_iald ?_; refine qt_goto ?_; exact qt_z rfl rfl rfl rfl rfl) ⟨(q_id_of rfl), (q_id_of rfl), ho14⟩ ?_
          exact s_retI .int (by decide +kernel) rfl rfl h
    · replace h := h.2 hc
      refine s_blk [(.iconst 0, 1, 0, 0)] 31 [some (.ref (79)), some (.int (x1)), some (.int (x2))] [.int (0)] u7 [] (by decide +kernel) (by refine qt_iconst qc_0 ?_; exact qt_z rfl rfl rfl rfl rfl) trivial ?_
      exact s_retI .int (by decide +kernel) rfl rfl h
theorem eX12_debt {d : Nat} {x1 : Int32} {x2 : Int32} {w : q_Sm} {Q : s_Po} {X : s_Xo} (h : vX12_debt_0 d x1 x2 w Q X) : s_Ev (d + 1) 0 mX12_debt w [.ref (79), .int (x1), .int (x2)] Q X := s_of (by decide +kernel) rfl (Nat.le_of_ble_eq_true rfl) (xX12_debt_0 h)
