def vX12_thrown_0 (d : Nat)  (w : q_Sm) (Q : s_Po) (X : s_Xo) : Prop := Q (some (.int (w.1 79 0))) w
theorem xX12_thrown_0 {d : Nat}  {w : q_Sm} {Q : s_Po} {X : s_Xo} (h : vX12_thrown_0 d  w Q X) : s_Ex (d + 1) 0 mX12_thrown 0 [some (.ref (79))] [] w Q X := by
  unfold vX12_thrown_0 at h
  refine s_blk [(.aload_n 0, 1, 0, 0), (.getfield 3, 3, 12, 0)] 4 [some (.ref (79))] [.int (w.1 79 0)] w [q_id 116 12 79] (by decide +kernel) (by refine qt_aload_n (r := 79) rfl ?_; refine qt_getI rfl rfl ?_; exact qt_z rfl rfl rfl rfl rfl) (q_id_of rfl) ?_
  exact s_retI .int (by decide +kernel) rfl rfl h
theorem eX12_thrown {d : Nat}  {w : q_Sm} {Q : s_Po} {X : s_Xo} (h : vX12_thrown_0 d  w Q X) : s_Ev (d + 1) 0 mX12_thrown w [.ref (79)] Q X := s_of (by decide +kernel) rfl (Nat.le_of_ble_eq_true rfl) (xX12_thrown_0 h)
def vX12_may_0 (d : Nat) (x1 : Int32) (x2 : Int32) (x3 : Int32) (w : q_Sm) (Q : s_Po) (X : s_Xo) : Prop := ((¬ x1 = 0) → ((¬ (w.1 79 0) = 0) → Q (some (.int (0))) w) ∧ (¬ (¬ (w.1 79 0) = 0) → Q (some (.int (1))) w)) ∧ (¬ (¬ x1 = 0) → ((¬ (w.1 79 0) = 0) → ((¬ (w.1 79 0) = 0) → Q (some (.int (0))) w) ∧ (¬ (¬ (w.1 79 0) = 0) → Q (some (.int (1))) w)) ∧ (¬ (¬ (w.1 79 0) = 0) → ∀ w_1 : q_Sm, w_1 = q_wI w 79 0 x2 → (vp_in x3 2) ∧ (vp_in x3 2) ∧ ∀ w_2 : q_Sm, w_2 = q_wI w_1 80 (Int32.toNatClampNeg x3) ((w_1.1 80 (Int32.toNatClampNeg x3)) + 1) → ((¬ (w_2.1 79 0) = 0) → Q (some (.int (0))) w_2) ∧ (¬ (¬ (w_2.1 79 0) = 0) → Q (some (.int (1))) w_2)))
theorem xX12_may_0 {d : Nat} {x1 : Int32} {x2 : Int32} {x3 : Int32} {w : q_Sm} {Q : s_Po} {X : s_Xo} (h : vX12_may_0 d x1 x2 x3 w Q X) : s_Ex (d + 1) 0 mX12_may 0 [some (.ref (79)), some (.int (x1)), some (.int (x2)), some (.int (x3))] [] w Q X := by
  unfold vX12_may_0 at h
  refine s_blk [(.iload_n 1, 1, 0, 0)] 1 [some (.ref (79)), some (.int (x1)), some (.int (x2)), some (.int (x3))] [.int (x1)] w [] (by decide +kernel) (by refine qt_iload_n (x := x1) rfl ?_; exact qt_z rfl rfl rfl rfl rfl) trivial ?_
  refine s_if (cd := .ne) (off := 25) 26 (by decide +kernel) (by decide) (fun hc => ?_) (fun hc => ?_)
  · replace h := h.1 hc
    refine s_blk [(.aload_n 0, 1, 0, 0), (.getfield 3, 3, 12, 0)] 30 [some (.ref (79)), some (.int (x1)), some (.int (x2)), some (.int (x3))] [.int (w.1 79 0)] w [q_id 116 12 79] (by decide +kernel) (by refine qt_aload_n (r := 79) rfl ?_; refine qt_getI rfl rfl ?_; exact qt_z rfl rfl rfl rfl rfl) (q_id_of rfl) ?_
    refine s_if (cd := .ne) (off := 7) 37 (by decide +kernel) (by decide) (fun hc => ?_) (fun hc => ?_)
    · replace h := h.1 hc
      refine s_blk [(.iconst 0, 1, 0, 0)] 38 [some (.ref (79)), some (.int (x1)), some (.int (x2)), some (.int (x3))] [.int (0)] w [] (by decide +kernel) (by refine qt_iconst qc_0 ?_; exact qt_z rfl rfl rfl rfl rfl) trivial ?_
      exact s_retI .boolean (by decide +kernel) rfl rfl h
    · replace h := h.2 hc
      refine s_blk [(.iconst 1, 1, 0, 0), (.goto 4, 3, 38, 0)] 38 [some (.ref (79)), some (.int (x1)), some (.int (x2)), some (.int (x3))] [.int (1)] w [] (by decide +kernel) (by refine qt_iconst qc_1 ?_; refine qt_goto ?_; exact qt_z rfl rfl rfl rfl rfl) trivial ?_
      exact s_retI .boolean (by decide +kernel) rfl rfl h
  · replace h := h.2 hc
    refine s_blk [(.aload_n 0, 1, 0, 0), (.getfield 3, 3, 12, 0)] 8 [some (.ref (79)), some (.int (x1)), some (.int (x2)), some (.int (x3))] [.int (w.1 79 0)] w [q_id 116 12 79] (by decide +kernel) (by refine qt_aload_n (r := 79) rfl ?_; refine qt_getI rfl rfl ?_; exact qt_z rfl rfl rfl rfl rfl) (q_id_of rfl) ?_
    refine s_if (cd := .ne) (off := 18) 26 (by decide +kernel) (by decide) (fun hc => ?_) (fun hc => ?_)
    · replace h := h.1 hc
      refine s_blk [(.aload_n 0, 1, 0, 0), (.getfield 3, 3, 12, 0)] 30 [some (.ref (79)), some (.int (x1)), some (.int (x2)), some (.int (x3))] [.int (w.1 79 0)] w [q_id 116 12 79] (by decide +kernel) (by refine qt_aload_n (r := 79) rfl ?_; refine qt_getI rfl rfl ?_; exact qt_z rfl rfl rfl rfl rfl) (q_id_of rfl) ?_
      refine s_if (cd := .ne) (off := 7) 37 (by decide +kernel) (by decide) (fun hc => ?_) (fun hc => ?_)
      · replace h := h.1 hc
        refine s_blk [(.iconst 0, 1, 0, 0)] 38 [some (.ref (79)), some (.int (x1)), some (.int (x2)), some (.int (x3))] [.int (0)] w [] (by decide +kernel) (by refine qt_iconst qc_0 ?_; exact qt_z rfl rfl rfl rfl rfl) trivial ?_
        exact s_retI .boolean (by decide +kernel) rfl rfl h
      · replace h := h.2 hc
        refine s_blk [(.iconst 1, 1, 0, 0), (.goto 4, 3, 38, 0)] 38 [some (.ref (79)), some (.int (x1)), some (.int (x2)), some (.int (x3))] [.int (1)] w [] (by decide +kernel) (by refine qt_iconst qc_1 ?_; refine qt_goto ?_; exact qt_z rfl rfl rfl rfl rfl) trivial ?_
        exact s_retI .boolean (by decide +kernel) rfl rfl h
    · replace h := h.2 hc
      replace h := h _ rfl
      obtain ⟨ho3, h⟩ := h
      obtain ⟨ho4, h⟩ := h
      replace h := h _ rfl
      refine s_blk [(.aload_n 0, 1, 0, 0), (.iload_n 2, 1, 0, 0), (.putfield 3, 3, 12, 0), (.aload_n 0, 1, 0, 0), (.getfield 7, 3, 12, 1), (.iload_n 3, 1, 0, 0), (.dup2, 1, 0, 0), (.iaload, 1, 0, 0), (.iconst 1, 1, 0, 0), (.iadd, 1, 0, 0), (.iastore, 1, 0, 0), (.aload_n 0, 1, 0, 0), (.getfield 3, 3, 12, 0)] 30 [some (.ref (79)), some (.int (x1)), some (.int (x2)), some (.int (x3))] [.int ((q_wI (q_wI w 79 0 x2) 80 (Int32.toNatClampNeg x3) (((q_wI w 79 0 x2).1 80 (Int32.toNatClampNeg x3)) + 1)).1 79 0)] (q_wI (q_wI w 79 0 x2) 80 (Int32.toNatClampNeg x3) (((q_wI w 79 0 x2).1 80 (Int32.toNatClampNeg x3)) + 1)) [q_id 116 12 79, q_id 116 12 79, q_id 116 14 80, vp_in x3 2, q_id 116 14 80, vp_in x3 2, q_id 116 12 79] (by decide +kernel) (by refine qt_aload_n (r := 79) rfl ?_; refine qt_iload_n (x := x2) rfl ?_; refine qt_putI rfl ?_; refine qt_aload_n (r := 79) rfl ?_; refine qt_getR (r := 80) rfl rfl rfl ?_; refine qt_iload_n (x := x3) rfl ?_; refine qt_dup2 ?_; refine qt_iald ?_; refine qt_iconst qc_1 ?_; refine qt_iadd ?_; refine qt_iast ?_; refine qt_aload_n (r := 79) rfl ?_; refine qt_getI rfl rfl ?_; exact qt_z rfl rfl rfl rfl rfl) ⟨(q_id_of rfl), (q_id_of rfl), (q_id_of rfl), ho3, (q_id_of rfl), ho4, (q_id_of rfl)⟩ ?_
      refine s_if (cd := .ne) (off := 7) 37 (by decide +kernel) (by decide) (fun hc => ?_) (fun hc => ?_)
      · replace h := h.1 hc
        refine s_blk [(.iconst 0, 1, 0, 0)] 38 [some (.ref (79)), some (.int (x1)), some (.int (x2)), some (.int (x3))] [.int (0)] (q_wI (q_wI w 79 0 x2) 80 (Int32.toNatClampNeg x3) (((q_wI w 79 0 x2).1 80 (Int32.toNatClampNeg x3)) + 1)) [] (by decide +kernel) (by refine qt_iconst qc_0 ?_; exact qt_z rfl rfl rfl rfl rfl) trivial ?_
        exact s_retI .boolean (by decide +kernel) rfl rfl h
      · replace h := h.2 hc
        refine s_blk [(.iconst 1, 1, 0, 0), (.goto 4, 3, 38, 0)] 38 [some (.ref (79)), some (.int (x1)), some (.int (x2)), some (.int (x3))] [.int (1)] (q_wI (q_wI w 79 0 x2) 80 (Int32.toNatClampNeg x3) (((q_wI w 79 0 x2).1 80 (Int32.toNatClampNeg x3)) + 1)) [] (by decide +kernel) (by refine qt_iconst qc_1 ?_; refine qt_goto ?_; exact qt_z rfl rfl rfl rfl rfl) trivial ?_
        exact s_retI .boolean (by decide +kernel) rfl rfl h
theorem eX12_may {d : Nat} {x1 : Int32} {x2 : Int32} {x3 : Int32} {w : q_Sm} {Q : s_Po} {X : s_Xo} (h : vX12_may_0 d x1 x2 x3 w Q X) : s_Ev (d + 1) 0 mX12_may w [.ref (79), .int (x1), .int (x2), .int (x3)] Q X := s_of (by decide +kernel) rfl (Nat.le_of_ble_eq_true rfl) (xX12_may_0 h)
def vX12_within_0 (d : Nat) (x0 : Int32) (x1 : Int32) (x2 : Int32) (w : q_Sm) (Q : s_Po) (X : s_Xo) : Prop := ((x0 < x1) → Q (some (.int (0))) w) ∧ (¬ (x0 < x1) → ((x2 < x0) → Q (some (.int (0))) w) ∧ (¬ (x2 < x0) → Q (some (.int (1))) w))
theorem xX12_within_0 {d : Nat} {x0 : Int32} {x1 : Int32} {x2 : Int32} {w : q_Sm} {Q : s_Po} {X : s_Xo} (h : vX12_within_0 d x0 x1 x2 w Q X) : s_Ex (d + 1) 0 mX12_within 0 [some (.int (x0)), some (.int (x1)), some (.int (x2))] [] w Q X := by
  unfold vX12_within_0 at h
  refine s_blk [(.iload_n 0, 1, 0, 0), (.iload_n 1, 1, 0, 0)] 2 [some (.int (x0)), some (.int (x1)), some (.int (x2))] [.int (x1), .int (x0)] w [] (by decide +kernel) (by refine qt_iload_n (x := x0) rfl ?_; refine qt_iload_n (x := x1) rfl ?_; exact qt_z rfl rfl rfl rfl rfl) trivial ?_
  refine s_icmp (cd := .lt) (off := 12) 14 (by decide +kernel) (by decide) (fun hc => ?_) (fun hc => ?_)
  · replace h := h.1 hc
    refine s_blk [(.iconst 0, 1, 0, 0)] 15 [some (.int (x0)), some (.int (x1)), some (.int (x2))] [.int (0)] w [] (by decide +kernel) (by refine qt_iconst qc_0 ?_; exact qt_z rfl rfl rfl rfl rfl) trivial ?_
    exact s_retI .boolean (by decide +kernel) rfl rfl h
  · replace h := h.2 hc
    refine s_blk [(.iload_n 0, 1, 0, 0), (.iload_n 2, 1, 0, 0)] 7 [some (.int (x0)), some (.int (x1)), some (.int (x2))] [.int (x2), .int (x0)] w [] (by decide +kernel) (by refine qt_iload_n (x := x0) rfl ?_; refine qt_iload_n (x := x2) rfl ?_; exact qt_z rfl rfl rfl rfl rfl) trivial ?_
    refine s_icmp (cd := .gt) (off := 7) 14 (by decide +kernel) (by decide) (fun hc => ?_) (fun hc => ?_)
    · replace h := h.1 hc
      refine s_blk [(.iconst 0, 1, 0, 0)] 15 [some (.int (x0)), some (.int (x1)), some (.int (x2))] [.int (0)] w [] (by decide +kernel) (by refine qt_iconst qc_0 ?_; exact qt_z rfl rfl rfl rfl rfl) trivial ?_
      exact s_retI .boolean (by decide +kernel) rfl rfl h
    · replace h := h.2 hc
      refine s_blk [(.iconst 1, 1, 0, 0), (.goto 4, 3, 15, 0)] 15 [some (.int (x0)), some (.int (x1)), some (.int (x2))] [.int (1)] w [] (by decide +kernel) (by refine qt_iconst qc_1 ?_; refine qt_goto ?_; exact qt_z rfl rfl rfl rfl rfl) trivial ?_
      exact s_retI .boolean (by decide +kernel) rfl rfl h
theorem eX12_within {d : Nat} {x0 : Int32} {x1 : Int32} {x2 : Int32} {w : q_Sm} {Q : s_Po} {X : s_Xo} (h : vX12_within_0 d x0 x1 x2 w Q X) : s_Ev (d + 1) 0 mX12_within w [.int (x0), .int (x1), .int (x2)] Q X := s_of (by decide +kernel) rfl (Nat.le_of_ble_eq_true rfl) (xX12_within_0 h)
def vX12_feed_0 (d : Nat) (x1 : Int32) (x2 : Int32) (x3 : Int32) (x4 : Int32) (x5 : Int32) (w : q_Sm) (Q : s_Po) (X : s_Xo) : Prop := ∀ w_1 : q_Sm, w_1 = q_wI w 79 0 0 → ((((w_1.1 79 2) + 20) ≤ 600) → s_Ex (d + 1) 0 mX12_feed 23 [some (.ref (79)), some (.int (x1)), some (.int (x2)), some (.int (x3)), some (.int (x4)), some (.int (x5)), some (.int (0)), none] [] w_1 Q X) ∧ (¬ (((w_1.1 79 2) + 20) ≤ 600) → Q (some (.int (-1))) w_1)
def vX12_feed_23 (d : Nat) (x1 : Int32) (x2 : Int32) (x3 : Int32) (x4 : Int32) (x5 : Int32) (x6 : Int32) (w : q_Sm) (Q : s_Po) (X : s_Xo) : Prop := ((20 ≤ x6) → Q (some (.int (w.1 79 2))) w) ∧ (¬ (20 ≤ x6) → ((4 ≤ x6) → ((8 ≤ x6) → ((12 ≤ x6) → ((16 ≤ x6) → (vp_in (w.1 79 2) 600) ∧ ∀ w_2 : q_Sm, w_2 = q_wI w 81 (Int32.toNatClampNeg (w.1 79 2)) ((x5 >>> ((24 - (8 * (x6 - x6 / 4 * 4))) &&& 31)) &&& 255) → ∀ w_3 : q_Sm, w_3 = q_wI w_2 79 2 ((w_2.1 79 2) + 1) → s_Ex (d + 1) 0 mX12_feed 23 [some (.ref (79)), some (.int (x1)), some (.int (x2)), some (.int (x3)), some (.int (x4)), some (.int (x5)), some (.int (x6 + 1)), none] [] w_3 Q X) ∧ (¬ (16 ≤ x6) → (vp_in (w.1 79 2) 600) ∧ ∀ w_5 : q_Sm, w_5 = q_wI w 81 (Int32.toNatClampNeg (w.1 79 2)) ((x4 >>> ((24 - (8 * (x6 - x6 / 4 * 4))) &&& 31)) &&& 255) → ∀ w_6 : q_Sm, w_6 = q_wI w_5 79 2 ((w_5.1 79 2) + 1) → s_Ex (d + 1) 0 mX12_feed 23 [some (.ref (79)), some (.int (x1)), some (.int (x2)), some (.int (x3)), some (.int (x4)), some (.int (x5)), some (.int (x6 + 1)), none] [] w_6 Q X)) ∧ (¬ (12 ≤ x6) → (vp_in (w.1 79 2) 600) ∧ ∀ w_8 : q_Sm, w_8 = q_wI w 81 (Int32.toNatClampNeg (w.1 79 2)) ((x3 >>> ((24 - (8 * (x6 - x6 / 4 * 4))) &&& 31)) &&& 255) → ∀ w_9 : q_Sm, w_9 = q_wI w_8 79 2 ((w_8.1 79 2) + 1) → s_Ex (d + 1) 0 mX12_feed 23 [some (.ref (79)), some (.int (x1)), some (.int (x2)), some (.int (x3)), some (.int (x4)), some (.int (x5)), some (.int (x6 + 1)), none] [] w_9 Q X)) ∧ (¬ (8 ≤ x6) → (vp_in (w.1 79 2) 600) ∧ ∀ w_11 : q_Sm, w_11 = q_wI w 81 (Int32.toNatClampNeg (w.1 79 2)) ((x2 >>> ((24 - (8 * (x6 - x6 / 4 * 4))) &&& 31)) &&& 255) → ∀ w_12 : q_Sm, w_12 = q_wI w_11 79 2 ((w_11.1 79 2) + 1) → s_Ex (d + 1) 0 mX12_feed 23 [some (.ref (79)), some (.int (x1)), some (.int (x2)), some (.int (x3)), some (.int (x4)), some (.int (x5)), some (.int (x6 + 1)), none] [] w_12 Q X)) ∧ (¬ (4 ≤ x6) → (vp_in (w.1 79 2) 600) ∧ ∀ w_14 : q_Sm, w_14 = q_wI w 81 (Int32.toNatClampNeg (w.1 79 2)) ((x1 >>> ((24 - (8 * (x6 - x6 / 4 * 4))) &&& 31)) &&& 255) → ∀ w_15 : q_Sm, w_15 = q_wI w_14 79 2 ((w_14.1 79 2) + 1) → s_Ex (d + 1) 0 mX12_feed 23 [some (.ref (79)), some (.int (x1)), some (.int (x2)), some (.int (x3)), some (.int (x4)), some (.int (x5)), some (.int (x6 + 1)), none] [] w_15 Q X))
theorem xX12_feed_0 {d : Nat} {x1 : Int32} {x2 : Int32} {x3 : Int32} {x4 : Int32} {x5 : Int32} {w : q_Sm} {Q : s_Po} {X : s_Xo} (h : vX12_feed_0 d x1 x2 x3 x4 x5 w Q X) : s_Ex (d + 1) 0 mX12_feed 0 [some (.ref (79)), some (.int (x1)), some (.int (x2)), some (.int (x3)), some (.int (x4)), some (.int (x5)), none, none] [] w Q X := by
  unfold vX12_feed_0 at h
  replace h := h _ rfl
  refine s_blk [(.aload_n 0, 1, 0, 0), (.iconst 0, 1, 0, 0), (.putfield 3, 3, 12, 0), (.aload_n 0, 1, 0, 0), (.getfield 132, 3, 12, 2), (.bipush 20, 2, 0, 0), (.iadd, 1, 0, 0), (.sipush 600, 3, 0, 0)] 15 [some (.ref (79)), some (.int (x1)), some (.int (x2)), some (.int (x3)), some (.int (x4)), some (.int (x5)), none, none] [.int (600), .int (((q_wI w 79 0 0).1 79 2) + 20)] (q_wI w 79 0 0) [q_id 116 12 79, q_id 116 12 79] (by decide +kernel) (by refine qt_aload_n (r := 79) rfl ?_; refine qt_iconst qc_0 ?_; refine qt_putI rfl ?_; refine qt_aload_n (r := 79) rfl ?_; refine qt_getI rfl rfl ?_; refine qt_bipush qb_20 ?_; refine qt_iadd ?_; refine qt_sipush qs_600 ?_; exact qt_z rfl rfl rfl rfl rfl) ⟨(q_id_of rfl), (q_id_of rfl)⟩ ?_
  refine s_icmp (cd := .le) (off := 5) 20 (by decide +kernel) (by decide) (fun hc => ?_) (fun hc => ?_)
  · replace h := h.1 hc
    refine s_blk [(.iconst 0, 1, 0, 0), (.istore 6, 2, 0, 0)] 23 [some (.ref (79)), some (.int (x1)), some (.int (x2)), some (.int (x3)), some (.int (x4)), some (.int (x5)), some (.int (0)), none] [] (q_wI w 79 0 0) [] (by decide +kernel) (by refine qt_iconst qc_0 ?_; refine qt_istore (L' := [some (.ref (79)), some (.int (x1)), some (.int (x2)), some (.int (x3)), some (.int (x4)), some (.int (x5)), some (.int (0)), none]) rfl ?_; exact qt_z rfl rfl rfl rfl rfl) trivial ?_
    exact h
  · replace h := h.2 hc
    refine s_blk [(.iconst (-1), 1, 0, 0)] 19 [some (.ref (79)), some (.int (x1)), some (.int (x2)), some (.int (x3)), some (.int (x4)), some (.int (x5)), none, none] [.int (-1)] (q_wI w 79 0 0) [] (by decide +kernel) (by refine qt_iconst qc_m1 ?_; exact qt_z rfl rfl rfl rfl rfl) trivial ?_
    exact s_retI .int (by decide +kernel) rfl rfl h
theorem xX12_feed_23 {d : Nat} {x1 : Int32} {x2 : Int32} {x3 : Int32} {x4 : Int32} {x5 : Int32} {x6 : Int32} {w : q_Sm} {Q : s_Po} {X : s_Xo} (h : vX12_feed_23 d x1 x2 x3 x4 x5 x6 w Q X) : s_Ex (d + 1) 0 mX12_feed 23 [some (.ref (79)), some (.int (x1)), some (.int (x2)), some (.int (x3)), some (.int (x4)), some (.int (x5)), some (.int (x6)), none] [] w Q X := by
  unfold vX12_feed_23 at h
  refine s_blk [(.iload 6, 2, 0, 0), (.bipush 20, 2, 0, 0)] 27 [some (.ref (79)), some (.int (x1)), some (.int (x2)), some (.int (x3)), some (.int (x4)), some (.int (x5)), some (.int (x6)), none] [.int (20), .int (x6)] w [] (by decide +kernel) (by refine qt_iload (x := x6) rfl ?_; refine qt_bipush qb_20 ?_; exact qt_z rfl rfl rfl rfl rfl) trivial ?_
  refine s_icmp (cd := .ge) (off := 93) 120 (by decide +kernel) (by decide) (fun hc => ?_) (fun hc => ?_)
  · replace h := h.1 hc
    refine s_blk [(.aload_n 0, 1, 0, 0), (.getfield 132, 3, 12, 2)] 124 [some (.ref (79)), some (.int (x1)), some (.int (x2)), some (.int (x3)), some (.int (x4)), some (.int (x5)), some (.int (x6)), none] [.int (w.1 79 2)] w [q_id 116 12 79] (by decide +kernel) (by refine qt_aload_n (r := 79) rfl ?_; refine qt_getI rfl rfl ?_; exact qt_z rfl rfl rfl rfl rfl) (q_id_of rfl) ?_
    exact s_retI .int (by decide +kernel) rfl rfl h
  · replace h := h.2 hc
    refine s_blk [(.iload 6, 2, 0, 0), (.iconst 4, 1, 0, 0)] 33 [some (.ref (79)), some (.int (x1)), some (.int (x2)), some (.int (x3)), some (.int (x4)), some (.int (x5)), some (.int (x6)), none] [.int (4), .int (x6)] w [] (by decide +kernel) (by refine qt_iload (x := x6) rfl ?_; refine qt_iconst qc_4 ?_; exact qt_z rfl rfl rfl rfl rfl) trivial ?_
    refine s_icmp (cd := .ge) (off := 7) 40 (by decide +kernel) (by decide) (fun hc => ?_) (fun hc => ?_)
    · replace h := h.1 hc
      refine s_blk [(.iload 6, 2, 0, 0), (.bipush 8, 2, 0, 0)] 44 [some (.ref (79)), some (.int (x1)), some (.int (x2)), some (.int (x3)), some (.int (x4)), some (.int (x5)), some (.int (x6)), none] [.int (8), .int (x6)] w [] (by decide +kernel) (by refine qt_iload (x := x6) rfl ?_; refine qt_bipush qb_8 ?_; exact qt_z rfl rfl rfl rfl rfl) trivial ?_
      refine s_icmp (cd := .ge) (off := 7) 51 (by decide +kernel) (by decide) (fun hc => ?_) (fun hc => ?_)
      · replace h := h.1 hc
        refine s_blk [(.iload 6, 2, 0, 0), (.bipush 12, 2, 0, 0)] 55 [some (.ref (79)), some (.int (x1)), some (.int (x2)), some (.int (x3)), some (.int (x4)), some (.int (x5)), some (.int (x6)), none] [.int (12), .int (x6)] w [] (by decide +kernel) (by refine qt_iload (x := x6) rfl ?_; refine qt_bipush qb_12 ?_; exact qt_z rfl rfl rfl rfl rfl) trivial ?_
        refine s_icmp (cd := .ge) (off := 7) 62 (by decide +kernel) (by decide) (fun hc => ?_) (fun hc => ?_)
        · replace h := h.1 hc
          refine s_blk [(.iload 6, 2, 0, 0), (.bipush 16, 2, 0, 0)] 66 [some (.ref (79)), some (.int (x1)), some (.int (x2)), some (.int (x3)), some (.int (x4)), some (.int (x5)), some (.int (x6)), none] [.int (16), .int (x6)] w [] (by decide +kernel) (by refine qt_iload (x := x6) rfl ?_; refine qt_bipush qb_16 ?_; exact qt_z rfl rfl rfl rfl rfl) trivial ?_
          refine s_icmp (cd := .ge) (off := 8) 74 (by decide +kernel) (by decide) (fun hc => ?_) (fun hc => ?_)
          · replace h := h.1 hc
            obtain ⟨ho4, h⟩ := h
            replace h := h _ rfl
            replace h := h _ rfl
            refine s_blk [(.iload 5, 2, 0, 0), (.istore 7, 2, 0, 0), (.aload_n 0, 1, 0, 0), (.getfield 20, 3, 12, 9), (.aload_n 0, 1, 0, 0), (.getfield 132, 3, 12, 2), (.iload 7, 2, 0, 0), (.bipush 24, 2, 0, 0), (.bipush 8, 2, 0, 0), (.iload 6, 2, 0, 0), (.iconst 4, 1, 0, 0), (.irem, 1, 0, 0), (.imul, 1, 0, 0), (.isub, 1, 0, 0), (.ishr, 1, 0, 0), (.sipush 255, 3, 0, 0), (.iand, 1, 0, 0), (.iastore, 1, 0, 0), (.aload_n 0, 1, 0, 0), (.dup, 1, 0, 0), (.getfield 132, 3, 12, 2), (.iconst 1, 1, 0, 0), (.iadd, 1, 0, 0), (.putfield 132, 3, 12, 2), (.iinc 6 1, 3, 0, 0), (.goto (-94), 3, 23, 0), (.nop, 0, 7, 0)] 23 [some (.ref (79)), some (.int (x1)), some (.int (x2)), some (.int (x3)), some (.int (x4)), some (.int (x5)), some (.int (x6 + 1)), none] [] (q_wI (q_wI w 81 (Int32.toNatClampNeg (w.1 79 2)) ((x5 >>> ((24 - (8 * (x6 - x6 / 4 * 4))) &&& 31)) &&& 255)) 79 2 (((q_wI w 81 (Int32.toNatClampNeg (w.1 79 2)) ((x5 >>> ((24 - (8 * (x6 - x6 / 4 * 4))) &&& 31)) &&& 255)).1 79 2) + 1)) [q_id 116 12 79, q_id 116 12 79, ¬ (4 : Int32) = 0, q_id 116 14 81, vp_in (w.1 79 2) 600, q_id 116 12 79, q_id 116 12 79] (by decide +kernel) (by refine qt_iload (x := x5) rfl ?_; refine qt_istore (L' := [some (.ref (79)), some (.int (x1)), some (.int (x2)), some (.int (x3)), some (.int (x4)), some (.int (x5)), some (.int (x6)), some (.int (x5))]) rfl ?_; refine qt_aload_n (r := 79) rfl ?_; refine qt_getR (r := 81) rfl rfl rfl ?_; refine qt_aload_n (r := 79) rfl ?_; refine qt_getI rfl rfl ?_; refine qt_iload (x := x5) rfl ?_; refine qt_bipush qb_24 ?_; refine qt_bipush qb_8 ?_; refine qt_iload (x := x6) rfl ?_; refine qt_iconst qc_4 ?_; refine qt_irem ?_; refine qt_imul ?_; refine qt_isub ?_; refine qt_ishr ?_; refine qt_sipush qs_255 ?_; refine qt_iand ?_; refine qt_iast ?_; refine qt_aload_n (r := 79) rfl ?_; refine qt_dupR ?_; refine qt_getI rfl rfl ?_; refine qt_iconst qc_1 ?_; refine qt_iadd ?_; refine qt_putI rfl ?_; refine qt_iinc (x := x6) (L' := [some (.ref (79)), some (.int (x1)), some (.int (x2)), some (.int (x3)), some (.int (x4)), some (.int (x5)), some (.int (x6 + 1)), some (.int (x5))]) rfl qc_1 rfl ?_; refine qt_goto ?_; refine qt_nop (L' := [some (.ref (79)), some (.int (x1)), some (.int (x2)), some (.int (x3)), some (.int (x4)), some (.int (x5)), some (.int (x6 + 1)), none]) rfl ?_; exact qt_z rfl rfl rfl rfl rfl) ⟨(q_id_of rfl), (q_id_of rfl), (show ¬ (4 : Int32) = 0 from by decide), (q_id_of rfl), ho4, (q_id_of rfl), (q_id_of rfl)⟩ ?_
            exact h
          · replace h := h.2 hc
            obtain ⟨ho7, h⟩ := h
            replace h := h _ rfl
            replace h := h _ rfl
            refine s_blk [(.iload 4, 2, 0, 0), (.goto 5, 3, 76, 0), (.istore 7, 2, 0, 0), (.aload_n 0, 1, 0, 0), (.getfield 20, 3, 12, 9), (.aload_n 0, 1, 0, 0), (.getfield 132, 3, 12, 2), (.iload 7, 2, 0, 0), (.bipush 24, 2, 0, 0), (.bipush 8, 2, 0, 0), (.iload 6, 2, 0, 0), (.iconst 4, 1, 0, 0), (.irem, 1, 0, 0), (.imul, 1, 0, 0), (.isub, 1, 0, 0), (.ishr, 1, 0, 0), (.sipush 255, 3, 0, 0), (.iand, 1, 0, 0), (.iastore, 1, 0, 0), (.aload_n 0, 1, 0, 0), (.dup, 1, 0, 0), (.getfield 132, 3, 12, 2), (.iconst 1, 1, 0, 0), (.iadd, 1, 0, 0), (.putfield 132, 3, 12, 2), (.iinc 6 1, 3, 0, 0), (.goto (-94), 3, 23, 0), (.nop, 0, 7, 0)] 23 [some (.ref (79)), some (.int (x1)), some (.int (x2)), some (.int (x3)), some (.int (x4)), some (.int (x5)), some (.int (x6 + 1)), none] [] (q_wI (q_wI w 81 (Int32.toNatClampNeg (w.1 79 2)) ((x4 >>> ((24 - (8 * (x6 - x6 / 4 * 4))) &&& 31)) &&& 255)) 79 2 (((q_wI w 81 (Int32.toNatClampNeg (w.1 79 2)) ((x4 >>> ((24 - (8 * (x6 - x6 / 4 * 4))) &&& 31)) &&& 255)).1 79 2) + 1)) [q_id 116 12 79, q_id 116 12 79, ¬ (4 : Int32) = 0, q_id 116 14 81, vp_in (w.1 79 2) 600, q_id 116 12 79, q_id 116 12 79] (by decide +kernel) (by refine qt_iload (x := x4) rfl ?_; refine qt_goto ?_; refine qt_istore (L' := [some (.ref (79)), some (.int (x1)), some (.int (x2)), some (.int (x3)), some (.int (x4)), some (.int (x5)), some (.int (x6)), some (.int (x4))]) rfl ?_; refine qt_aload_n (r := 79) rfl ?_; refine qt_getR (r := 81) rfl rfl rfl ?_; refine qt_aload_n (r := 79) rfl ?_; refine qt_getI rfl rfl ?_; refine qt_iload (x := x4) rfl ?_; refine qt_bipush qb_24 ?_; refine qt_bipush qb_8 ?_; refine qt_iload (x := x6) rfl ?_; refine qt_iconst qc_4 ?_; refine qt_irem ?_; refine qt_imul ?_; refine qt_isub ?_; refine qt_ishr ?_; refine qt_sipush qs_255 ?_; refine qt_iand ?_; refine qt_iast ?_; refine qt_aload_n (r := 79) rfl ?_; refine qt_dupR ?_; refine qt_getI rfl rfl ?_; refine qt_iconst qc_1 ?_; refine qt_iadd ?_; refine qt_putI rfl ?_; refine qt_iinc (x := x6) (L' := [some (.ref (79)), some (.int (x1)), some (.int (x2)), some (.int (x3)), some (.int (x4)), some (.int (x5)), some (.int (x6 + 1)), some (.int (x4))]) rfl qc_1 rfl ?_; refine qt_goto ?_; refine qt_nop (L' := [some (.ref (79)), some (.int (x1)), some (.int (x2)), some (.int (x3)), some (.int (x4)), some (.int (x5)), some (.int (x6 + 1)), none]) rfl ?_; exact qt_z rfl rfl rfl rfl rfl) ⟨(q_id_of rfl), (q_id_of rfl), (show ¬ (4 : Int32) = 0 from by decide), (q_id_of rfl), ho7, (q_id_of rfl), (q_id_of rfl)⟩ ?_
            exact h
        · replace h := h.2 hc
          obtain ⟨ho10, h⟩ := h
          replace h := h _ rfl
          replace h := h _ rfl
          refine s_blk [(.iload_n 3, 1, 0, 0), (.goto 17, 3, 76, 0), (.istore 7, 2, 0, 0), (.aload_n 0, 1, 0, 0), (.getfield 20, 3, 12, 9), (.aload_n 0, 1, 0, 0), (.getfield 132, 3, 12, 2), (.iload 7, 2, 0, 0), (.bipush 24, 2, 0, 0), (.bipush 8, 2, 0, 0), (.iload 6, 2, 0, 0), (.iconst 4, 1, 0, 0), (.irem, 1, 0, 0), (.imul, 1, 0, 0), (.isub, 1, 0, 0), (.ishr, 1, 0, 0), (.sipush 255, 3, 0, 0), (.iand, 1, 0, 0), (.iastore, 1, 0, 0), (.aload_n 0, 1, 0, 0), (.dup, 1, 0, 0), (.getfield 132, 3, 12, 2), (.iconst 1, 1, 0, 0), (.iadd, 1, 0, 0), (.putfield 132, 3, 12, 2), (.iinc 6 1, 3, 0, 0), (.goto (-94), 3, 23, 0), (.nop, 0, 7, 0)] 23 [some (.ref (79)), some (.int (x1)), some (.int (x2)), some (.int (x3)), some (.int (x4)), some (.int (x5)), some (.int (x6 + 1)), none] [] (q_wI (q_wI w 81 (Int32.toNatClampNeg (w.1 79 2)) ((x3 >>> ((24 - (8 * (x6 - x6 / 4 * 4))) &&& 31)) &&& 255)) 79 2 (((q_wI w 81 (Int32.toNatClampNeg (w.1 79 2)) ((x3 >>> ((24 - (8 * (x6 - x6 / 4 * 4))) &&& 31)) &&& 255)).1 79 2) + 1)) [q_id 116 12 79, q_id 116 12 79, ¬ (4 : Int32) = 0, q_id 116 14 81, vp_in (w.1 79 2) 600, q_id 116 12 79, q_id 116 12 79] (by decide +kernel) (by refine qt_iload_n (x := x3) rfl ?_; refine qt_goto ?_; refine qt_istore (L' := [some (.ref (79)), some (.int (x1)), some (.int (x2)), some (.int (x3)), some (.int (x4)), some (.int (x5)), some (.int (x6)), some (.int (x3))]) rfl ?_; refine qt_aload_n (r := 79) rfl ?_; refine qt_getR (r := 81) rfl rfl rfl ?_; refine qt_aload_n (r := 79) rfl ?_; refine qt_getI rfl rfl ?_; refine qt_iload (x := x3) rfl ?_; refine qt_bipush qb_24 ?_; refine qt_bipush qb_8 ?_; refine qt_iload (x := x6) rfl ?_; refine qt_iconst qc_4 ?_; refine qt_irem ?_; refine qt_imul ?_; refine qt_isub ?_; refine qt_ishr ?_; refine qt_sipush qs_255 ?_; refine qt_iand ?_; refine qt_iast ?_; refine qt_aload_n (r := 79) rfl ?_; refine qt_dupR ?_; refine qt_getI rfl rfl ?_; refine qt_iconst qc_1 ?_; refine qt_iadd ?_; refine qt_putI rfl ?_; refine qt_iinc (x := x6) (L' := [some (.ref (79)), some (.int (x1)), some (.int (x2)), some (.int (x3)), some (.int (x4)), some (.int (x5)), some (.int (x6 + 1)), some (.int (x3))]) rfl qc_1 rfl ?_; refine qt_goto ?_; refine qt_nop (L' := [some (.ref (79)), some (.int (x1)), some (.int (x2)), some (.int (x3)), some (.int (x4)), some (.int (x5)), some (.int (x6 + 1)), none]) rfl ?_; exact qt_z rfl rfl rfl rfl rfl) ⟨(q_id_of rfl), (q_id_of rfl), (show ¬ (4 : Int32) = 0 from by decide), (q_id_of rfl), ho10, (q_id_of rfl), (q_id_of rfl)⟩ ?_
          exact h
      · replace h := h.2 hc
        obtain ⟨ho13, h⟩ := h
        replace h := h _ rfl
        replace h := h _ rfl
        refine s_blk [(.iload_n 2, 1, 0, 0), (.goto 28, 3, 76, 0), (.istore 7, 2, 0, 0), (.aload_n 0, 1, 0, 0), (.getfield 20, 3, 12, 9), (.aload_n 0, 1, 0, 0), (.getfield 132, 3, 12, 2), (.iload 7, 2, 0, 0), (.bipush 24, 2, 0, 0), (.bipush 8, 2, 0, 0), (.iload 6, 2, 0, 0), (.iconst 4, 1, 0, 0), (.irem, 1, 0, 0), (.imul, 1, 0, 0), (.isub, 1, 0, 0), (.ishr, 1, 0, 0), (.sipush 255, 3, 0, 0), (.iand, 1, 0, 0), (.iastore, 1, 0, 0), (.aload_n 0, 1, 0, 0), (.dup, 1, 0, 0), (.getfield 132, 3, 12, 2), (.iconst 1, 1, 0, 0), (.iadd, 1, 0, 0), (.putfield 132, 3, 12, 2), (.iinc 6 1, 3, 0, 0), (.goto (-94), 3, 23, 0), (.nop, 0, 7, 0)] 23 [some (.ref (79)), some (.int (x1)), some (.int (x2)), some (.int (x3)), some (.int (x4)), some (.int (x5)), some (.int (x6 + 1)), none] [] (q_wI (q_wI w 81 (Int32.toNatClampNeg (w.1 79 2)) ((x2 >>> ((24 - (8 * (x6 - x6 / 4 * 4))) &&& 31)) &&& 255)) 79 2 (((q_wI w 81 (Int32.toNatClampNeg (w.1 79 2)) ((x2 >>> ((24 - (8 * (x6 - x6 / 4 * 4))) &&& 31)) &&& 255)).1 79 2) + 1)) [q_id 116 12 79, q_id 116 12 79, ¬ (4 : Int32) = 0, q_id 116 14 81, vp_in (w.1 79 2) 600, q_id 116 12 79, q_id 116 12 79] (by decide +kernel) (by refine qt_iload_n (x := x2) rfl ?_; refine qt_goto ?_; refine qt_istore (L' := [some (.ref (79)), some (.int (x1)), some (.int (x2)), some (.int (x3)), some (.int (x4)), some (.int (x5)), some (.int (x6)), some (.int (x2))]) rfl ?_; refine qt_aload_n (r := 79) rfl ?_; refine qt_getR (r := 81) rfl rfl rfl ?_; refine qt_aload_n (r := 79) rfl ?_; refine qt_getI rfl rfl ?_; refine qt_iload (x := x2) rfl ?_; refine qt_bipush qb_24 ?_; refine qt_bipush qb_8 ?_; refine qt_iload (x := x6) rfl ?_; refine qt_iconst qc_4 ?_; refine qt_irem ?_; refine qt_imul ?_; refine qt_isub ?_; refine qt_ishr ?_; refine qt_sipush qs_255 ?_; refine qt_iand ?_; refine qt_iast ?_; refine qt_aload_n (r := 79) rfl ?_; refine qt_dupR ?_; refine qt_getI rfl rfl ?_; refine qt_iconst qc_1 ?_; refine qt_iadd ?_; refine qt_putI rfl ?_; refine qt_iinc (x := x6) (L' := [some (.ref (79)), some (.int (x1)), some (.int (x2)), some (.int (x3)), some (.int (x4)), some (.int (x5)), some (.int (x6 + 1)), some (.int (x2))]) rfl qc_1 rfl ?_; refine qt_goto ?_; refine qt_nop (L' := [some (.ref (79)), some (.int (x1)), some (.int (x2)), some (.int (x3)), some (.int (x4)), some (.int (x5)), some (.int (x6 + 1)), none]) rfl ?_; exact qt_z rfl rfl rfl rfl rfl) ⟨(q_id_of rfl), (q_id_of rfl), (show ¬ (4 : Int32) = 0 from by decide), (q_id_of rfl), ho13, (q_id_of rfl), (q_id_of rfl)⟩ ?_
        exact h
    · replace h := h.2 hc
      obtain ⟨ho16, h⟩ := h
      replace h := h _ rfl
      replace h := h _ rfl
      refine s_blk [(.iload_n 1, 1, 0, 0), (.goto 39, 3, 76, 0), (.istore 7, 2, 0, 0), (.aload_n 0, 1, 0, 0), (.getfield 20, 3, 12, 9), (.aload_n 0, 1, 0, 0), (.getfield 132, 3, 12, 2), (.iload 7, 2, 0, 0), (.bipush 24, 2, 0, 0), (.bipush 8, 2, 0, 0), (.iload 6, 2, 0, 0), (.iconst 4, 1, 0, 0), (.irem, 1, 0, 0), (.imul, 1, 0, 0), (.isub, 1, 0, 0), (.ishr, 1, 0, 0), (.sipush 255, 3, 0, 0), (.iand, 1, 0, 0), (.iastore, 1, 0, 0), (.aload_n 0, 1, 0, 0), (.dup, 1, 0, 0), (.getfield 132, 3, 12, 2), (.iconst 1, 1, 0, 0), (.iadd, 1, 0, 0), (.putfield 132, 3, 12, 2), (.iinc 6 1, 3, 0, 0), (.goto (-94), 3, 23, 0), (.nop, 0, 7, 0)] 23 [some (.ref (79)), some (.int (x1)), some (.int (x2)), some (.int (x3)), some (.int (x4)), some (.int (x5)), some (.int (x6 + 1)), none] [] (q_wI (q_wI w 81 (Int32.toNatClampNeg (w.1 79 2)) ((x1 >>> ((24 - (8 * (x6 - x6 / 4 * 4))) &&& 31)) &&& 255)) 79 2 (((q_wI w 81 (Int32.toNatClampNeg (w.1 79 2)) ((x1 >>> ((24 - (8 * (x6 - x6 / 4 * 4))) &&& 31)) &&& 255)).1 79 2) + 1)) [q_id 116 12 79, q_id 116 12 79, ¬ (4 : Int32) = 0, q_id 116 14 81, vp_in (w.1 79 2) 600, q_id 116 12 79, q_id 116 12 79] (by decide +kernel) (by refine qt_iload_n (x := x1) rfl ?_; refine qt_goto ?_; refine qt_istore (L' := [some (.ref (79)), some (.int (x1)), some (.int (x2)), some (.int (x3)), some (.int (x4)), some (.int (x5)), some (.int (x6)), some (.int (x1))]) rfl ?_; refine qt_aload_n (r := 79) rfl ?_; refine qt_getR (r := 81) rfl rfl rfl ?_; refine qt_aload_n (r := 79) rfl ?_; refine qt_getI rfl rfl ?_; refine qt_iload (x := x1) rfl ?_; refine qt_bipush qb_24 ?_; refine qt_bipush qb_8 ?_; refine qt_iload (x := x6) rfl ?_; refine qt_iconst qc_4 ?_; refine qt_irem ?_; refine qt_imul ?_; refine qt_isub ?_; refine qt_ishr ?_; refine qt_sipush qs_255 ?_; refine qt_iand ?_; refine qt_iast ?_; refine qt_aload_n (r := 79) rfl ?_; refine qt_dupR ?_; refine qt_getI rfl rfl ?_; refine qt_iconst qc_1 ?_; refine qt_iadd ?_; refine qt_putI rfl ?_; refine qt_iinc (x := x6) (L' := [some (.ref (79)), some (.int (x1)), some (.int (x2)), some (.int (x3)), some (.int (x4)), some (.int (x5)), some (.int (x6 + 1)), some (.int (x1))]) rfl qc_1 rfl ?_; refine qt_goto ?_; refine qt_nop (L' := [some (.ref (79)), some (.int (x1)), some (.int (x2)), some (.int (x3)), some (.int (x4)), some (.int (x5)), some (.int (x6 + 1)), none]) rfl ?_; exact qt_z rfl rfl rfl rfl rfl) ⟨(q_id_of rfl), (q_id_of rfl), (show ¬ (4 : Int32) = 0 from by decide), (q_id_of rfl), ho16, (q_id_of rfl), (q_id_of rfl)⟩ ?_
      exact h
theorem eX12_feed {d : Nat} {x1 : Int32} {x2 : Int32} {x3 : Int32} {x4 : Int32} {x5 : Int32} {w : q_Sm} {Q : s_Po} {X : s_Xo} (h : vX12_feed_0 d x1 x2 x3 x4 x5 w Q X) : s_Ev (d + 1) 0 mX12_feed w [.ref (79), .int (x1), .int (x2), .int (x3), .int (x4), .int (x5)] Q X := s_of (by decide +kernel) rfl (Nat.le_of_ble_eq_true rfl) (xX12_feed_0 h)
def vX12_fine_0 (d : Nat)  (w : q_Sm) (Q : s_Po) (X : s_Xo) : Prop := ((¬ (w.1 79 5) = (-1)) → Q (some (.int (0))) w) ∧ (¬ (¬ (w.1 79 5) = (-1)) → Q (some (.int (1))) w)
theorem xX12_fine_0 {d : Nat}  {w : q_Sm} {Q : s_Po} {X : s_Xo} (h : vX12_fine_0 d  w Q X) : s_Ex (d + 1) 0 mX12_fine 0 [some (.ref (79))] [] w Q X := by
  unfold vX12_fine_0 at h
  refine s_blk [(.aload_n 0, 1, 0, 0), (.getfield 135, 3, 12, 5), (.iconst (-1), 1, 0, 0)] 5 [some (.ref (79))] [.int (-1), .int (w.1 79 5)] w [q_id 116 12 79] (by decide +kernel) (by refine qt_aload_n (r := 79) rfl ?_; refine qt_getI rfl rfl ?_; refine qt_iconst qc_m1 ?_; exact qt_z rfl rfl rfl rfl rfl) (q_id_of rfl) ?_
  refine s_icmp (cd := .ne) (off := 7) 12 (by decide +kernel) (by decide) (fun hc => ?_) (fun hc => ?_)
  · replace h := h.1 hc
    refine s_blk [(.iconst 0, 1, 0, 0)] 13 [some (.ref (79))] [.int (0)] w [] (by decide +kernel) (by refine qt_iconst qc_0 ?_; exact qt_z rfl rfl rfl rfl rfl) trivial ?_
    exact s_retI .boolean (by decide +kernel) rfl rfl h
  · replace h := h.2 hc
    refine s_blk [(.iconst 1, 1, 0, 0), (.goto 4, 3, 13, 0)] 13 [some (.ref (79))] [.int (1)] w [] (by decide +kernel) (by refine qt_iconst qc_1 ?_; refine qt_goto ?_; exact qt_z rfl rfl rfl rfl rfl) trivial ?_
    exact s_retI .boolean (by decide +kernel) rfl rfl h
theorem eX12_fine {d : Nat}  {w : q_Sm} {Q : s_Po} {X : s_Xo} (h : vX12_fine_0 d  w Q X) : s_Ev (d + 1) 0 mX12_fine w [.ref (79)] Q X := s_of (by decide +kernel) rfl (Nat.le_of_ble_eq_true rfl) (xX12_fine_0 h)
def vX12_wrong_0 (d : Nat) (x1 : Int32) (x2 : Int32) (w : q_Sm) (Q : s_Po) (X : s_Xo) : Prop := (((w.1 79 5) = (-1)) → ∀ w_1 : q_Sm, w_1 = q_wI w 79 5 x2 → ∀ w_2 : q_Sm, w_2 = q_wI w_1 79 6 x1 → Q none w_2) ∧ (¬ ((w.1 79 5) = (-1)) → Q none w)
theorem xX12_wrong_0 {d : Nat} {x1 : Int32} {x2 : Int32} {w : q_Sm} {Q : s_Po} {X : s_Xo} (h : vX12_wrong_0 d x1 x2 w Q X) : s_Ex (d + 1) 0 mX12_wrong 0 [some (.ref (79)), some (.int (x1)), some (.int (x2))] [] w Q X := by
  unfold vX12_wrong_0 at h
  refine s_blk [(.aload_n 0, 1, 0, 0), (.getfield 135, 3, 12, 5), (.iconst (-1), 1, 0, 0)] 5 [some (.ref (79)), some (.int (x1)), some (.int (x2))] [.int (-1), .int (w.1 79 5)] w [q_id 116 12 79] (by decide +kernel) (by refine qt_aload_n (r := 79) rfl ?_; refine qt_getI rfl rfl ?_; refine qt_iconst qc_m1 ?_; exact qt_z rfl rfl rfl rfl rfl) (q_id_of rfl) ?_
  refine s_icmp (cd := .eq) (off := 4) 9 (by decide +kernel) (by decide) (fun hc => ?_) (fun hc => ?_)
  · replace h := h.1 hc
    replace h := h _ rfl
    replace h := h _ rfl
    refine s_blk [(.aload_n 0, 1, 0, 0), (.iload_n 2, 1, 0, 0), (.putfield 135, 3, 12, 5), (.aload_n 0, 1, 0, 0), (.iload_n 1, 1, 0, 0), (.putfield 138, 3, 12, 6)] 19 [some (.ref (79)), some (.int (x1)), some (.int (x2))] [] (q_wI (q_wI w 79 5 x2) 79 6 x1) [q_id 116 12 79, q_id 116 12 79] (by decide +kernel) (by refine qt_aload_n (r := 79) rfl ?_; refine qt_iload_n (x := x2) rfl ?_; refine qt_putI rfl ?_; refine qt_aload_n (r := 79) rfl ?_; refine qt_iload_n (x := x1) rfl ?_; refine qt_putI rfl ?_; exact qt_z rfl rfl rfl rfl rfl) ⟨(q_id_of rfl), (q_id_of rfl)⟩ ?_
    exact s_retV (by decide +kernel) rfl h
  · replace h := h.2 hc
    exact s_retV (by decide +kernel) rfl h
theorem eX12_wrong {d : Nat} {x1 : Int32} {x2 : Int32} {w : q_Sm} {Q : s_Po} {X : s_Xo} (h : vX12_wrong_0 d x1 x2 w Q X) : s_Ev (d + 1) 0 mX12_wrong w [.ref (79), .int (x1), .int (x2)] Q X := s_of (by decide +kernel) rfl (Nat.le_of_ble_eq_true rfl) (xX12_wrong_0 h)
def vX12_here_0 (d : Nat)  (w : q_Sm) (Q : s_Po) (X : s_Xo) : Prop := (((w.1 79 3) ≤ (w.1 79 4)) → (((w.1 79 3) ≤ (w.1 79 4)) → Q (some (.int (0))) w) ∧ (¬ ((w.1 79 3) ≤ (w.1 79 4)) → (vp_in (w.1 79 4) 600) ∧ Q (some (.int (w.1 81 (Int32.toNatClampNeg (w.1 79 4))))) w)) ∧ (¬ ((w.1 79 3) ≤ (w.1 79 4)) → (vp_in (w.1 79 4) 600) ∧ ((¬ (w.1 81 (Int32.toNatClampNeg (w.1 79 4))) = 32) → (((w.1 79 3) ≤ (w.1 79 4)) → Q (some (.int (0))) w) ∧ (¬ ((w.1 79 3) ≤ (w.1 79 4)) → (vp_in (w.1 79 4) 600) ∧ Q (some (.int (w.1 81 (Int32.toNatClampNeg (w.1 79 4))))) w)) ∧ (¬ (¬ (w.1 81 (Int32.toNatClampNeg (w.1 79 4))) = 32) → ∀ w_3 : q_Sm, w_3 = q_wI w 79 4 ((w.1 79 4) + 1) → s_Ex (d + 1) 0 mX12_here 0 [some (.ref (79))] [] w_3 Q X))
theorem xX12_here_0 {d : Nat}  {w : q_Sm} {Q : s_Po} {X : s_Xo} (h : vX12_here_0 d  w Q X) : s_Ex (d + 1) 0 mX12_here 0 [some (.ref (79))] [] w Q X := by
  unfold vX12_here_0 at h
  refine s_blk [(.aload_n 0, 1, 0, 0), (.getfield 141, 3, 12, 4), (.aload_n 0, 1, 0, 0), (.getfield 144, 3, 12, 3)] 8 [some (.ref (79))] [.int (w.1 79 3), .int (w.1 79 4)] w [q_id 116 12 79, q_id 116 12 79] (by decide +kernel) (by refine qt_aload_n (r := 79) rfl ?_; refine qt_getI rfl rfl ?_; refine qt_aload_n (r := 79) rfl ?_; refine qt_getI rfl rfl ?_; exact qt_z rfl rfl rfl rfl rfl) ⟨(q_id_of rfl), (q_id_of rfl)⟩ ?_
  refine s_icmp (cd := .ge) (off := 30) 38 (by decide +kernel) (by decide) (fun hc => ?_) (fun hc => ?_)
  · replace h := h.1 hc
    refine s_blk [(.aload_n 0, 1, 0, 0), (.getfield 141, 3, 12, 4), (.aload_n 0, 1, 0, 0), (.getfield 144, 3, 12, 3)] 46 [some (.ref (79))] [.int (w.1 79 3), .int (w.1 79 4)] w [q_id 116 12 79, q_id 116 12 79] (by decide +kernel) (by refine qt_aload_n (r := 79) rfl ?_; refine qt_getI rfl rfl ?_; refine qt_aload_n (r := 79) rfl ?_; refine qt_getI rfl rfl ?_; exact qt_z rfl rfl rfl rfl rfl) ⟨(q_id_of rfl), (q_id_of rfl)⟩ ?_
    refine s_icmp (cd := .ge) (off := 15) 61 (by decide +kernel) (by decide) (fun hc => ?_) (fun hc => ?_)
    · replace h := h.1 hc
      refine s_blk [(.iconst 0, 1, 0, 0)] 62 [some (.ref (79))] [.int (0)] w [] (by decide +kernel) (by refine qt_iconst qc_0 ?_; exact qt_z rfl rfl rfl rfl rfl) trivial ?_
      exact s_retI .int (by decide +kernel) rfl rfl h
    · replace h := h.2 hc
      obtain ⟨ho1, h⟩ := h
      refine s_blk [(.aload_n 0, 1, 0, 0), (.getfield 20, 3, 12, 9), (.aload_n 0, 1, 0, 0), (.getfield 141, 3, 12, 4), (.iaload, 1, 0, 0), (.goto 4, 3, 62, 0)] 62 [some (.ref (79))] [.int (w.1 81 (Int32.toNatClampNeg (w.1 79 4)))] w [q_id 116 12 79, q_id 116 12 79, q_id 116 14 81, vp_in (w.1 79 4) 600] (by decide +kernel) (by refine qt_aload_n (r := 79) rfl ?_; refine qt_getR (r := 81) rfl rfl rfl ?_; refine qt_aload_n (r := 79) rfl ?_; refine qt_getI rfl rfl ?_; refine qt_iald ?_; refine qt_goto ?_; exact qt_z rfl rfl rfl rfl rfl) ⟨(q_id_of rfl), (q_id_of rfl), (q_id_of rfl), ho1⟩ ?_
      exact s_retI .int (by decide +kernel) rfl rfl h
  · replace h := h.2 hc
    obtain ⟨ho4, h⟩ := h
    refine s_blk [(.aload_n 0, 1, 0, 0), (.getfield 20, 3, 12, 9), (.aload_n 0, 1, 0, 0), (.getfield 141, 3, 12, 4), (.iaload, 1, 0, 0), (.bipush 32, 2, 0, 0)] 22 [some (.ref (79))] [.int (32), .int (w.1 81 (Int32.toNatClampNeg (w.1 79 4)))] w [q_id 116 12 79, q_id 116 12 79, q_id 116 14 81, vp_in (w.1 79 4) 600] (by decide +kernel) (by refine qt_aload_n (r := 79) rfl ?_; refine qt_getR (r := 81) rfl rfl rfl ?_; refine qt_aload_n (r := 79) rfl ?_; refine qt_getI rfl rfl ?_; refine qt_iald ?_; refine qt_bipush qb_32 ?_; exact qt_z rfl rfl rfl rfl rfl) ⟨(q_id_of rfl), (q_id_of rfl), (q_id_of rfl), ho4⟩ ?_
    refine s_icmp (cd := .ne) (off := 16) 38 (by decide +kernel) (by decide) (fun hc => ?_) (fun hc => ?_)
    · replace h := h.1 hc
      refine s_blk [(.aload_n 0, 1, 0, 0), (.getfield 141, 3, 12, 4), (.aload_n 0, 1, 0, 0), (.getfield 144, 3, 12, 3)] 46 [some (.ref (79))] [.int (w.1 79 3), .int (w.1 79 4)] w [q_id 116 12 79, q_id 116 12 79] (by decide +kernel) (by refine qt_aload_n (r := 79) rfl ?_; refine qt_getI rfl rfl ?_; refine qt_aload_n (r := 79) rfl ?_; refine qt_getI rfl rfl ?_; exact qt_z rfl rfl rfl rfl rfl) ⟨(q_id_of rfl), (q_id_of rfl)⟩ ?_
      refine s_icmp (cd := .ge) (off := 15) 61 (by decide +kernel) (by decide) (fun hc => ?_) (fun hc => ?_)
      · replace h := h.1 hc
        refine s_blk [(.iconst 0, 1, 0, 0)] 62 [some (.ref (79))] [.int (0)] w [] (by decide +kernel) (by refine qt_iconst qc_0 ?_; exact qt_z rfl rfl rfl rfl rfl) trivial ?_
        exact s_retI .int (by decide +kernel) rfl rfl h
      · replace h := h.2 hc
        obtain ⟨ho2, h⟩ := h
        refine s_blk [(.aload_n 0, 1, 0, 0), (.getfield 20, 3, 12, 9), (.aload_n 0, 1, 0, 0), (.getfield 141, 3, 12, 4), (.iaload, 1, 0, 0), (.goto 4, 3, 62, 0)] 62 [some (.ref (79))] [.int (w.1 81 (Int32.toNatClampNeg (w.1 79 4)))] w [q_id 116 12 79, q_id 116 12 79, q_id 116 14 81, vp_in (w.1 79 4) 600] (by decide +kernel) (by refine qt_aload_n (r := 79) rfl ?_; refine qt_getR (r := 81) rfl rfl rfl ?_; refine qt_aload_n (r := 79) rfl ?_; refine qt_getI rfl rfl ?_; refine qt_iald ?_; refine qt_goto ?_; exact qt_z rfl rfl rfl rfl rfl) ⟨(q_id_of rfl), (q_id_of rfl), (q_id_of rfl), ho2⟩ ?_
        exact s_retI .int (by decide +kernel) rfl rfl h
    · replace h := h.2 hc
      replace h := h _ rfl
      refine s_blk [(.aload_n 0, 1, 0, 0), (.dup, 1, 0, 0), (.getfield 141, 3, 12, 4), (.iconst 1, 1, 0, 0), (.iadd, 1, 0, 0), (.putfield 141, 3, 12, 4), (.goto (-35), 3, 0, 0)] 0 [some (.ref (79))] [] (q_wI w 79 4 ((w.1 79 4) + 1)) [q_id 116 12 79, q_id 116 12 79] (by decide +kernel) (by refine qt_aload_n (r := 79) rfl ?_; refine qt_dupR ?_; refine qt_getI rfl rfl ?_; refine qt_iconst qc_1 ?_; refine qt_iadd ?_; refine qt_putI rfl ?_; refine qt_goto ?_; exact qt_z rfl rfl rfl rfl rfl) ⟨(q_id_of rfl), (q_id_of rfl)⟩ ?_
      exact h
theorem eX12_here {d : Nat}  {w : q_Sm} {Q : s_Po} {X : s_Xo} (h : vX12_here_0 d  w Q X) : s_Ev (d + 1) 0 mX12_here w [.ref (79)] Q X := s_of (by decide +kernel) rfl (Nat.le_of_ble_eq_true rfl) (xX12_here_0 h)
def vX12_isSmall_0 (d : Nat) (x0 : Int32) (w : q_Sm) (Q : s_Po) (X : s_Xo) : Prop := ((x0 < 97) → Q (some (.int (0))) w) ∧ (¬ (x0 < 97) → ((122 < x0) → Q (some (.int (0))) w) ∧ (¬ (122 < x0) → Q (some (.int (1))) w))
theorem xX12_isSmall_0 {d : Nat} {x0 : Int32} {w : q_Sm} {Q : s_Po} {X : s_Xo} (h : vX12_isSmall_0 d x0 w Q X) : s_Ex (d + 1) 0 mX12_isSmall 0 [some (.int (x0))] [] w Q X := by
  unfold vX12_isSmall_0 at h
  refine s_blk [(.iload_n 0, 1, 0, 0), (.bipush 97, 2, 0, 0)] 3 [some (.int (x0))] [.int (97), .int (x0)] w [] (by decide +kernel) (by refine qt_iload_n (x := x0) rfl ?_; refine qt_bipush qb_97 ?_; exact qt_z rfl rfl rfl rfl rfl) trivial ?_
  refine s_icmp (cd := .lt) (off := 13) 16 (by decide +kernel) (by decide) (fun hc => ?_) (fun hc => ?_)
  · replace h := h.1 hc
    refine s_blk [(.iconst 0, 1, 0, 0)] 17 [some (.int (x0))] [.int (0)] w [] (by decide +kernel) (by refine qt_iconst qc_0 ?_; exact qt_z rfl rfl rfl rfl rfl) trivial ?_
    exact s_retI .boolean (by decide +kernel) rfl rfl h
  · replace h := h.2 hc
    refine s_blk [(.iload_n 0, 1, 0, 0), (.bipush 122, 2, 0, 0)] 9 [some (.int (x0))] [.int (122), .int (x0)] w [] (by decide +kernel) (by refine qt_iload_n (x := x0) rfl ?_; refine qt_bipush qb_122 ?_; exact qt_z rfl rfl rfl rfl rfl) trivial ?_
    refine s_icmp (cd := .gt) (off := 7) 16 (by decide +kernel) (by decide) (fun hc => ?_) (fun hc => ?_)
    · replace h := h.1 hc
      refine s_blk [(.iconst 0, 1, 0, 0)] 17 [some (.int (x0))] [.int (0)] w [] (by decide +kernel) (by refine qt_iconst qc_0 ?_; exact qt_z rfl rfl rfl rfl rfl) trivial ?_
      exact s_retI .boolean (by decide +kernel) rfl rfl h
    · replace h := h.2 hc
      refine s_blk [(.iconst 1, 1, 0, 0), (.goto 4, 3, 17, 0)] 17 [some (.int (x0))] [.int (1)] w [] (by decide +kernel) (by refine qt_iconst qc_1 ?_; refine qt_goto ?_; exact qt_z rfl rfl rfl rfl rfl) trivial ?_
      exact s_retI .boolean (by decide +kernel) rfl rfl h
theorem eX12_isSmall {d : Nat} {x0 : Int32} {w : q_Sm} {Q : s_Po} {X : s_Xo} (h : vX12_isSmall_0 d x0 w Q X) : s_Ev (d + 1) 0 mX12_isSmall w [.int (x0)] Q X := s_of (by decide +kernel) rfl (Nat.le_of_ble_eq_true rfl) (xX12_isSmall_0 h)
def vX12_isDigit_0 (d : Nat) (x0 : Int32) (w : q_Sm) (Q : s_Po) (X : s_Xo) : Prop := ((x0 < 48) → Q (some (.int (0))) w) ∧ (¬ (x0 < 48) → ((57 < x0) → Q (some (.int (0))) w) ∧ (¬ (57 < x0) → Q (some (.int (1))) w))
theorem xX12_isDigit_0 {d : Nat} {x0 : Int32} {w : q_Sm} {Q : s_Po} {X : s_Xo} (h : vX12_isDigit_0 d x0 w Q X) : s_Ex (d + 1) 0 mX12_isDigit 0 [some (.int (x0))] [] w Q X := by
  unfold vX12_isDigit_0 at h
  refine s_blk [(.iload_n 0, 1, 0, 0), (.bipush 48, 2, 0, 0)] 3 [some (.int (x0))] [.int (48), .int (x0)] w [] (by decide +kernel) (by refine qt_iload_n (x := x0) rfl ?_; refine qt_bipush qb_48 ?_; exact qt_z rfl rfl rfl rfl rfl) trivial ?_
  refine s_icmp (cd := .lt) (off := 13) 16 (by decide +kernel) (by decide) (fun hc => ?_) (fun hc => ?_)
  · replace h := h.1 hc
    refine s_blk [(.iconst 0, 1, 0, 0)] 17 [some (.int (x0))] [.int (0)] w [] (by decide +kernel) (by refine qt_iconst qc_0 ?_; exact qt_z rfl rfl rfl rfl rfl) trivial ?_
    exact s_retI .boolean (by decide +kernel) rfl rfl h
  · replace h := h.2 hc
    refine s_blk [(.iload_n 0, 1, 0, 0), (.bipush 57, 2, 0, 0)] 9 [some (.int (x0))] [.int (57), .int (x0)] w [] (by decide +kernel) (by refine qt_iload_n (x := x0) rfl ?_; refine qt_bipush qb_57 ?_; exact qt_z rfl rfl rfl rfl rfl) trivial ?_
    refine s_icmp (cd := .gt) (off := 7) 16 (by decide +kernel) (by decide) (fun hc => ?_) (fun hc => ?_)
    · replace h := h.1 hc
      refine s_blk [(.iconst 0, 1, 0, 0)] 17 [some (.int (x0))] [.int (0)] w [] (by decide +kernel) (by refine qt_iconst qc_0 ?_; exact qt_z rfl rfl rfl rfl rfl) trivial ?_
      exact s_retI .boolean (by decide +kernel) rfl rfl h
    · replace h := h.2 hc
      refine s_blk [(.iconst 1, 1, 0, 0), (.goto 4, 3, 17, 0)] 17 [some (.int (x0))] [.int (1)] w [] (by decide +kernel) (by refine qt_iconst qc_1 ?_; refine qt_goto ?_; exact qt_z rfl rfl rfl rfl rfl) trivial ?_
      exact s_retI .boolean (by decide +kernel) rfl rfl h
theorem eX12_isDigit {d : Nat} {x0 : Int32} {w : q_Sm} {Q : s_Po} {X : s_Xo} (h : vX12_isDigit_0 d x0 w Q X) : s_Ev (d + 1) 0 mX12_isDigit w [.int (x0)] Q X := s_of (by decide +kernel) rfl (Nat.le_of_ble_eq_true rfl) (xX12_isDigit_0 h)
def vX12_word_0 (d : Nat)  (w : q_Sm) (Q : s_Po) (X : s_Xo) : Prop := s_EvI d 0 mX12_here w [.ref (79)] (fun v1 u2 => s_Ex (d + 1) 0 mX12_word 14 [some (.ref (79)), some (.int (0)), some (.int (0)), some (.int (u2.1 79 4))] [] u2 Q X) X
def vX12_word_14 (d : Nat) (x1 : Int32) (x2 : Int32) (x3 : Int32) (w : q_Sm) (Q : s_Po) (X : s_Xo) : Prop := (((w.1 79 3) ≤ x3) → ((x2 ≤ 6) → Q (some (.int (x1))) w) ∧ (¬ (x2 ≤ 6) → Q (some (.int (0))) w)) ∧ (¬ ((w.1 79 3) ≤ x3) → (vp_in x3 600) ∧ s_EvI d 0 mX12_isSmall w [.int (w.1 81 (Int32.toNatClampNeg x3))] (fun v3 u4 => ((v3 = 0) → ((x2 ≤ 6) → Q (some (.int (x1))) u4) ∧ (¬ (x2 ≤ 6) → Q (some (.int (0))) u4)) ∧ (¬ (v3 = 0) → ((6 ≤ x2) → s_Ex (d + 1) 0 mX12_word 14 [some (.ref (79)), some (.int (0)), some (.int (x2 + 1)), some (.int (x3 + 1))] [] u4 Q X) ∧ (¬ (6 ≤ x2) → (vp_in x3 600) ∧ s_Ex (d + 1) 0 mX12_word 14 [some (.ref (79)), some (.int ((x1 <<< ((5 : Int32) &&& 31)) ||| ((u4.1 81 (Int32.toNatClampNeg x3)) - 96))), some (.int (x2 + 1)), some (.int (x3 + 1))] [] u4 Q X))) X)
theorem xX12_word_0 {d : Nat}  {w : q_Sm} {Q : s_Po} {X : s_Xo} (h : vX12_word_0 d  w Q X) : s_Ex (d + 1) 0 mX12_word 0 [some (.ref (79)), none, none, none] [] w Q X := by
  unfold vX12_word_0 at h
  refine s_blk [(.aload_n 0, 1, 0, 0)] 1 [some (.ref (79)), none, none, none] [.ref (79)] w [] (by decide +kernel) (by refine qt_aload_n (r := 79) rfl ?_; exact qt_z rfl rfl rfl rfl rfl) trivial ?_
  refine s_callV (a := 0) (a' := 0) (As := []) (id := 79) (st := []) kX12_here l_12_147 (by decide +kernel) (q_id_of rfl) rfl (Nat.le_of_ble_eq_true rfl) (s_mono h (s_I_of (fun v1 u2 h => ?_)) (fun _ _ h9 => h9))
  show s_Ex (d + 1) 0 mX12_word 4 [some (.ref (79)), none, none, none] [.int (v1)] u2 Q X
  refine s_blk [(.pop, 1, 0, 0), (.iconst 0, 1, 0, 0), (.istore_n 1, 1, 0, 0), (.iconst 0, 1, 0, 0), (.istore_n 2, 1, 0, 0), (.aload_n 0, 1, 0, 0), (.getfield 141, 3, 12, 4), (.istore_n 3, 1, 0, 0)] 14 [some (.ref (79)), some (.int (0)), some (.int (0)), some (.int (u2.1 79 4))] [] u2 [q_id 116 12 79] (by decide +kernel) (by refine qt_pop ?_; refine qt_iconst qc_0 ?_; refine qt_istore_n (L' := [some (.ref (79)), some (.int (0)), none, none]) rfl ?_; refine qt_iconst qc_0 ?_; refine qt_istore_n (L' := [some (.ref (79)), some (.int (0)), some (.int (0)), none]) rfl ?_; refine qt_aload_n (r := 79) rfl ?_; refine qt_getI rfl rfl ?_; refine qt_istore_n (L' := [some (.ref (79)), some (.int (0)), some (.int (0)), some (.int (u2.1 79 4))]) rfl ?_; exact qt_z rfl rfl rfl rfl rfl) (q_id_of rfl) ?_
  exact h
theorem xX12_word_14 {d : Nat} {x1 : Int32} {x2 : Int32} {x3 : Int32} {w : q_Sm} {Q : s_Po} {X : s_Xo} (h : vX12_word_14 d x1 x2 x3 w Q X) : s_Ex (d + 1) 0 mX12_word 14 [some (.ref (79)), some (.int (x1)), some (.int (x2)), some (.int (x3))] [] w Q X := by
  unfold vX12_word_14 at h
  refine s_blk [(.iload_n 3, 1, 0, 0), (.aload_n 0, 1, 0, 0), (.getfield 144, 3, 12, 3)] 19 [some (.ref (79)), some (.int (x1)), some (.int (x2)), some (.int (x3))] [.int (w.1 79 3), .int (x3)] w [q_id 116 12 79] (by decide +kernel) (by refine qt_iload_n (x := x3) rfl ?_; refine qt_aload_n (r := 79) rfl ?_; refine qt_getI rfl rfl ?_; exact qt_z rfl rfl rfl rfl rfl) (q_id_of rfl) ?_
  refine s_icmp (cd := .ge) (off := 48) 67 (by decide +kernel) (by decide) (fun hc => ?_) (fun hc => ?_)
  · replace h := h.1 hc
    refine s_blk [(.iload_n 2, 1, 0, 0), (.bipush 6, 2, 0, 0)] 70 [some (.ref (79)), some (.int (x1)), some (.int (x2)), some (.int (x3))] [.int (6), .int (x2)] w [] (by decide +kernel) (by refine qt_iload_n (x := x2) rfl ?_; refine qt_bipush qb_6 ?_; exact qt_z rfl rfl rfl rfl rfl) trivial ?_
    refine s_icmp (cd := .le) (off := 7) 77 (by decide +kernel) (by decide) (fun hc => ?_) (fun hc => ?_)
    · replace h := h.1 hc
      refine s_blk [(.iload_n 1, 1, 0, 0)] 78 [some (.ref (79)), some (.int (x1)), some (.int (x2)), some (.int (x3))] [.int (x1)] w [] (by decide +kernel) (by refine qt_iload_n (x := x1) rfl ?_; exact qt_z rfl rfl rfl rfl rfl) trivial ?_
      exact s_retI .int (by decide +kernel) rfl rfl h
    · replace h := h.2 hc
      refine s_blk [(.iconst 0, 1, 0, 0), (.goto 4, 3, 78, 0)] 78 [some (.ref (79)), some (.int (x1)), some (.int (x2)), some (.int (x3))] [.int (0)] w [] (by decide +kernel) (by refine qt_iconst qc_0 ?_; refine qt_goto ?_; exact qt_z rfl rfl rfl rfl rfl) trivial ?_
      exact s_retI .int (by decide +kernel) rfl rfl h
  · replace h := h.2 hc
    obtain ⟨ho6, h⟩ := h
    refine s_blk [(.aload_n 0, 1, 0, 0), (.getfield 20, 3, 12, 9), (.iload_n 3, 1, 0, 0), (.iaload, 1, 0, 0)] 28 [some (.ref (79)), some (.int (x1)), some (.int (x2)), some (.int (x3))] [.int (w.1 81 (Int32.toNatClampNeg x3))] w [q_id 116 12 79, q_id 116 14 81, vp_in x3 600] (by decide +kernel) (by refine qt_aload_n (r := 79) rfl ?_; refine qt_getR (r := 81) rfl rfl rfl ?_; refine qt_iload_n (x := x3) rfl ?_; refine qt_iald ?_; exact qt_z rfl rfl rfl rfl rfl) ⟨(q_id_of rfl), (q_id_of rfl), ho6⟩ ?_
    refine s_callS (a := 0) (a' := 0) (As := [.int (w.1 81 (Int32.toNatClampNeg x3))]) (st := []) kX12_isSmall l_12_151 (by decide +kernel) rfl (Nat.le_of_ble_eq_true rfl) (s_mono h (s_I_of (fun v3 u4 h => ?_)) (fun _ _ h9 => h9))
    show s_Ex (d + 1) 0 mX12_word 31 [some (.ref (79)), some (.int (x1)), some (.int (x2)), some (.int (x3))] [.int (v3)] u4 Q X
    refine s_if (cd := .eq) (off := 36) 67 (by decide +kernel) (by decide) (fun hc => ?_) (fun hc => ?_)
    · replace h := h.1 hc
      refine s_blk [(.iload_n 2, 1, 0, 0), (.bipush 6, 2, 0, 0)] 70 [some (.ref (79)), some (.int (x1)), some (.int (x2)), some (.int (x3))] [.int (6), .int (x2)] u4 [] (by decide +kernel) (by refine qt_iload_n (x := x2) rfl ?_; refine qt_bipush qb_6 ?_; exact qt_z rfl rfl rfl rfl rfl) trivial ?_
      refine s_icmp (cd := .le) (off := 7) 77 (by decide +kernel) (by decide) (fun hc => ?_) (fun hc => ?_)
      · replace h := h.1 hc
        refine s_blk [(.iload_n 1, 1, 0, 0)] 78 [some (.ref (79)), some (.int (x1)), some (.int (x2)), some (.int (x3))] [.int (x1)] u4 [] (by decide +kernel) (by refine qt_iload_n (x := x1) rfl ?_; exact qt_z rfl rfl rfl rfl rfl) trivial ?_
        exact s_retI .int (by decide +kernel) rfl rfl h
      · replace h := h.2 hc
        refine s_blk [(.iconst 0, 1, 0, 0), (.goto 4, 3, 78, 0)] 78 [some (.ref (79)), some (.int (x1)), some (.int (x2)), some (.int (x3))] [.int (0)] u4 [] (by decide +kernel) (by refine qt_iconst qc_0 ?_; refine qt_goto ?_; exact qt_z rfl rfl rfl rfl rfl) trivial ?_
        exact s_retI .int (by decide +kernel) rfl rfl h
    · replace h := h.2 hc
      refine s_blk [(.iload_n 2, 1, 0, 0), (.bipush 6, 2, 0, 0)] 37 [some (.ref (79)), some (.int (x1)), some (.int (x2)), some (.int (x3))] [.int (6), .int (x2)] u4 [] (by decide +kernel) (by refine qt_iload_n (x := x2) rfl ?_; refine qt_bipush qb_6 ?_; exact qt_z rfl rfl rfl rfl rfl) trivial ?_
      refine s_icmp (cd := .ge) (off := 19) 56 (by decide +kernel) (by decide) (fun hc => ?_) (fun hc => ?_)
      · replace h := h.1 hc
        refine s_blk [(.iconst 0, 1, 0, 0), (.istore_n 1, 1, 0, 0), (.iinc 2 1, 3, 0, 0), (.iinc 3 1, 3, 0, 0), (.goto (-50), 3, 14, 0)] 14 [some (.ref (79)), some (.int (0)), some (.int (x2 + 1)), some (.int (x3 + 1))] [] u4 [] (by decide +kernel) (by refine qt_iconst qc_0 ?_; refine qt_istore_n (L' := [some (.ref (79)), some (.int (0)), some (.int (x2)), some (.int (x3))]) rfl ?_; refine qt_iinc (x := x2) (L' := [some (.ref (79)), some (.int (0)), some (.int (x2 + 1)), some (.int (x3))]) rfl qc_1 rfl ?_; refine qt_iinc (x := x3) (L' := [some (.ref (79)), some (.int (0)), some (.int (x2 + 1)), some (.int (x3 + 1))]) rfl qc_1 rfl ?_; refine qt_goto ?_; exact qt_z rfl rfl rfl rfl rfl) trivial ?_
        exact h
      · replace h := h.2 hc
        obtain ⟨ho5, h⟩ := h
        refine s_blk [(.iload_n 1, 1, 0, 0), (.iconst 5, 1, 0, 0), (.ishl, 1, 0, 0), (.aload_n 0, 1, 0, 0), (.getfield 20, 3, 12, 9), (.iload_n 3, 1, 0, 0), (.iaload, 1, 0, 0), (.bipush 96, 2, 0, 0), (.isub, 1, 0, 0), (.ior, 1, 0, 0), (.goto 4, 3, 57, 0), (.istore_n 1, 1, 0, 0), (.iinc 2 1, 3, 0, 0), (.iinc 3 1, 3, 0, 0), (.goto (-50), 3, 14, 0)] 14 [some (.ref (79)), some (.int ((x1 <<< ((5 : Int32) &&& 31)) ||| ((u4.1 81 (Int32.toNatClampNeg x3)) - 96))), some (.int (x2 + 1)), some (.int (x3 + 1))] [] u4 [q_id 116 12 79, q_id 116 14 81, vp_in x3 600] (by decide +kernel) (by refine qt_iload_n (x := x1) rfl ?_; refine qt_iconst qc_5 ?_; refine qt_ishl ?_; refine qt_aload_n (r := 79) rfl ?_; refine qt_getR (r := 81) rfl rfl rfl ?_; refine qt_iload_n (x := x3) rfl ?_; refine qt_iald ?_; refine qt_bipush qb_96 ?_; refine qt_isub ?_; refine qt_ior ?_; refine qt_goto ?_; refine qt_istore_n (L' := [some (.ref (79)), some (.int ((x1 <<< ((5 : Int32) &&& 31)) ||| ((u4.1 81 (Int32.toNatClampNeg x3)) - 96))), some (.int (x2)), some (.int (x3))]) rfl ?_; refine qt_iinc (x := x2) (L' := [some (.ref (79)), some (.int ((x1 <<< ((5 : Int32) &&& 31)) ||| ((u4.1 81 (Int32.toNatClampNeg x3)) - 96))), some (.int (x2 + 1)), some (.int (x3))]) rfl qc_1 rfl ?_; refine qt_iinc (x := x3) (L' := [some (.ref (79)), some (.int ((x1 <<< ((5 : Int32) &&& 31)) ||| ((u4.1 81 (Int32.toNatClampNeg x3)) - 96))), some (.int (x2 + 1)), some (.int (x3 + 1))]) rfl qc_1 rfl ?_; refine qt_goto ?_; exact qt_z rfl rfl rfl rfl rfl) ⟨(q_id_of rfl), (q_id_of rfl), ho5⟩ ?_
        exact h
theorem eX12_word {d : Nat}  {w : q_Sm} {Q : s_Po} {X : s_Xo} (h : vX12_word_0 d  w Q X) : s_Ev (d + 1) 0 mX12_word w [.ref (79)] Q X := s_of (by decide +kernel) rfl (Nat.le_of_ble_eq_true rfl) (xX12_word_0 h)
def vX12_of_0 (d : Nat) (r0 : Nat) (w : q_Sm) (Q : s_Po) (X : s_Xo) : Prop := s_Ex (d + 1) 0 mX12_of 4 [some (.retAddr (r0)), some (.int (0)), some (.int (0))] [] w Q X
def vX12_of_4 (d : Nat) (r0 : Nat) (x1 : Int32) (x2 : Int32) (w : q_Sm) (Q : s_Po) (X : s_Xo) : Prop := r0 < 51 ∧ s_EvI d 0 mS_length w [.retAddr (r0)] (fun v1 u2 => ((v1 ≤ x2) → Q (some (.int (x1))) u2) ∧ (¬ (v1 ≤ x2) → r0 < 51 ∧ s_EvI d 0 mS_charAt u2 [.retAddr (r0), .int (x2)] (fun v3 u4 => s_Ex (d + 1) 0 mX12_of 4 [some (.retAddr (r0)), some (.int ((x1 <<< ((5 : Int32) &&& 31)) ||| (v3 - 96))), some (.int (x2 + 1))] [] u4 Q X) X)) X
theorem xX12_of_0 {d : Nat} {r0 : Nat} {w : q_Sm} {Q : s_Po} {X : s_Xo} (h : vX12_of_0 d r0 w Q X) : s_Ex (d + 1) 0 mX12_of 0 [some (.retAddr (r0)), none, none] [] w Q X := by
  unfold vX12_of_0 at h
  refine s_blk [(.iconst 0, 1, 0, 0), (.istore_n 1, 1, 0, 0), (.iconst 0, 1, 0, 0), (.istore_n 2, 1, 0, 0)] 4 [some (.retAddr (r0)), some (.int (0)), some (.int (0))] [] w [] (by decide +kernel) (by refine qt_iconst qc_0 ?_; refine qt_istore_n (L' := [some (.retAddr (r0)), some (.int (0)), none]) rfl ?_; refine qt_iconst qc_0 ?_; refine qt_istore_n (L' := [some (.retAddr (r0)), some (.int (0)), some (.int (0))]) rfl ?_; exact qt_z rfl rfl rfl rfl rfl) trivial ?_
  exact h
theorem xX12_of_4 {d : Nat} {r0 : Nat} {x1 : Int32} {x2 : Int32} {w : q_Sm} {Q : s_Po} {X : s_Xo} (h : vX12_of_4 d r0 x1 x2 w Q X) : s_Ex (d + 1) 0 mX12_of 4 [some (.retAddr (r0)), some (.int (x1)), some (.int (x2))] [] w Q X := by
  unfold vX12_of_4 at h
  refine s_blk [(.iload_n 2, 1, 0, 0), (.aload_n 0, 1, 0, 0)] 6 [some (.retAddr (r0)), some (.int (x1)), some (.int (x2))] [.retAddr (r0), .int (x2)] w [] (by decide +kernel) (by refine qt_iload_n (x := x2) rfl ?_; refine qt_sload_n (r := r0) rfl ?_; exact qt_z rfl rfl rfl rfl rfl) trivial ?_
  obtain ⟨hid, h⟩ := h
  refine s_callT (a := 0) (a' := 0) (As := []) (id := r0) (st := [.int (x2)]) kS_length l_12_155 (by decide +kernel) hid rfl (Nat.le_of_ble_eq_true rfl) (s_mono h (s_I_of (fun v1 u2 h => ?_)) (fun _ _ h9 => h9))
  show s_Ex (d + 1) 0 mX12_of 9 [some (.retAddr (r0)), some (.int (x1)), some (.int (x2))] [.int (v1), .int (x2)] u2 Q X
  refine s_icmp (cd := .ge) (off := 22) 31 (by decide +kernel) (by decide) (fun hc => ?_) (fun hc => ?_)
  · replace h := h.1 hc
    refine s_blk [(.iload_n 1, 1, 0, 0)] 32 [some (.retAddr (r0)), some (.int (x1)), some (.int (x2))] [.int (x1)] u2 [] (by decide +kernel) (by refine qt_iload_n (x := x1) rfl ?_; exact qt_z rfl rfl rfl rfl rfl) trivial ?_
    exact s_retI .int (by decide +kernel) rfl rfl h
  · replace h := h.2 hc
    refine s_blk [(.iload_n 1, 1, 0, 0), (.iconst 5, 1, 0, 0), (.ishl, 1, 0, 0), (.aload_n 0, 1, 0, 0), (.iload_n 2, 1, 0, 0)] 17 [some (.retAddr (r0)), some (.int (x1)), some (.int (x2))] [.int (x2), .retAddr (r0), .int (x1 <<< ((5 : Int32) &&& 31))] u2 [] (by decide +kernel) (by refine qt_iload_n (x := x1) rfl ?_; refine qt_iconst qc_5 ?_; refine qt_ishl ?_; refine qt_sload_n (r := r0) rfl ?_; refine qt_iload_n (x := x2) rfl ?_; exact qt_z rfl rfl rfl rfl rfl) trivial ?_
    obtain ⟨hid, h⟩ := h
    refine s_callT (a := 0) (a' := 0) (As := [.int (x2)]) (id := r0) (st := [.int (x1 <<< ((5 : Int32) &&& 31))]) kS_charAt l_12_160 (by decide +kernel) hid rfl (Nat.le_of_ble_eq_true rfl) (s_mono h (s_I_of (fun v3 u4 h => ?_)) (fun _ _ h9 => h9))
    show s_Ex (d + 1) 0 mX12_of 20 [some (.retAddr (r0)), some (.int (x1)), some (.int (x2))] [.int (v3), .int (x1 <<< ((5 : Int32) &&& 31))] u4 Q X
    refine s_blk [(.bipush 96, 2, 0, 0), (.isub, 1, 0, 0), (.ior, 1, 0, 0), (.istore_n 1, 1, 0, 0), (.iinc 2 1, 3, 0, 0), (.goto (-24), 3, 4, 0)] 4 [some (.retAddr (r0)), some (.int ((x1 <<< ((5 : Int32) &&& 31)) ||| (v3 - 96))), some (.int (x2 + 1))] [] u4 [] (by decide +kernel) (by refine qt_bipush qb_96 ?_; refine qt_isub ?_; refine qt_ior ?_; refine qt_istore_n (L' := [some (.retAddr (r0)), some (.int ((x1 <<< ((5 : Int32) &&& 31)) ||| (v3 - 96))), some (.int (x2))]) rfl ?_; refine qt_iinc (x := x2) (L' := [some (.retAddr (r0)), some (.int ((x1 <<< ((5 : Int32) &&& 31)) ||| (v3 - 96))), some (.int (x2 + 1))]) rfl qc_1 rfl ?_; refine qt_goto ?_; exact qt_z rfl rfl rfl rfl rfl) trivial ?_
    exact h
theorem eX12_of {d : Nat} {r0 : Nat} {w : q_Sm} {Q : s_Po} {X : s_Xo} (h : vX12_of_0 d r0 w Q X) : s_Ev (d + 1) 0 mX12_of w [.retAddr (r0)] Q X := s_of (by decide +kernel) rfl (Nat.le_of_ble_eq_true rfl) (xX12_of_0 h)
def vX12_pass_0 (d : Nat)  (w : q_Sm) (Q : s_Po) (X : s_Xo) : Prop := (((w.1 79 3) ≤ (w.1 79 4)) → Q none w) ∧ (¬ ((w.1 79 3) ≤ (w.1 79 4)) → (vp_in (w.1 79 4) 600) ∧ s_EvI d 0 mX12_isSmall w [.int (w.1 81 (Int32.toNatClampNeg (w.1 79 4)))] (fun v1 u2 => ((v1 = 0) → Q none u2) ∧ (¬ (v1 = 0) → ∀ w_3 : q_Sm, w_3 = q_wI u2 79 4 ((u2.1 79 4) + 1) → s_Ex (d + 1) 0 mX12_pass 0 [some (.ref (79))] [] w_3 Q X)) X)
theorem xX12_pass_0 {d : Nat}  {w : q_Sm} {Q : s_Po} {X : s_Xo} (h : vX12_pass_0 d  w Q X) : s_Ex (d + 1) 0 mX12_pass 0 [some (.ref (79))] [] w Q X := by
  unfold vX12_pass_0 at h
  refine s_blk [(.aload_n 0, 1, 0, 0), (.getfield 141, 3, 12, 4), (.aload_n 0, 1, 0, 0), (.getfield 144, 3, 12, 3)] 8 [some (.ref (79))] [.int (w.1 79 3), .int (w.1 79 4)] w [q_id 116 12 79, q_id 116 12 79] (by decide +kernel) (by refine qt_aload_n (r := 79) rfl ?_; refine qt_getI rfl rfl ?_; refine qt_aload_n (r := 79) rfl ?_; refine qt_getI rfl rfl ?_; exact qt_z rfl rfl rfl rfl rfl) ⟨(q_id_of rfl), (q_id_of rfl)⟩ ?_
  refine s_icmp (cd := .ge) (off := 31) 39 (by decide +kernel) (by decide) (fun hc => ?_) (fun hc => ?_)
  · replace h := h.1 hc
    exact s_retV (by decide +kernel) rfl h
  · replace h := h.2 hc
    obtain ⟨ho4, h⟩ := h
    refine s_blk [(.aload_n 0, 1, 0, 0), (.getfield 20, 3, 12, 9), (.aload_n 0, 1, 0, 0), (.getfield 141, 3, 12, 4), (.iaload, 1, 0, 0)] 20 [some (.ref (79))] [.int (w.1 81 (Int32.toNatClampNeg (w.1 79 4)))] w [q_id 116 12 79, q_id 116 12 79, q_id 116 14 81, vp_in (w.1 79 4) 600] (by decide +kernel) (by refine qt_aload_n (r := 79) rfl ?_; refine qt_getR (r := 81) rfl rfl rfl ?_; refine qt_aload_n (r := 79) rfl ?_; refine qt_getI rfl rfl ?_; refine qt_iald ?_; exact qt_z rfl rfl rfl rfl rfl) ⟨(q_id_of rfl), (q_id_of rfl), (q_id_of rfl), ho4⟩ ?_
    refine s_callS (a := 0) (a' := 0) (As := [.int (w.1 81 (Int32.toNatClampNeg (w.1 79 4)))]) (st := []) kX12_isSmall l_12_151 (by decide +kernel) rfl (Nat.le_of_ble_eq_true rfl) (s_mono h (s_I_of (fun v1 u2 h => ?_)) (fun _ _ h9 => h9))
    show s_Ex (d + 1) 0 mX12_pass 23 [some (.ref (79))] [.int (v1)] u2 Q X
    refine s_if (cd := .eq) (off := 16) 39 (by decide +kernel) (by decide) (fun hc => ?_) (fun hc => ?_)
    · replace h := h.1 hc
      exact s_retV (by decide +kernel) rfl h
    · replace h := h.2 hc
      replace h := h _ rfl
      refine s_blk [(.aload_n 0, 1, 0, 0), (.dup, 1, 0, 0), (.getfield 141, 3, 12, 4), (.iconst 1, 1, 0, 0), (.iadd, 1, 0, 0), (.putfield 141, 3, 12, 4), (.goto (-36), 3, 0, 0)] 0 [some (.ref (79))] [] (q_wI u2 79 4 ((u2.1 79 4) + 1)) [q_id 116 12 79, q_id 116 12 79] (by decide +kernel) (by refine qt_aload_n (r := 79) rfl ?_; refine qt_dupR ?_; refine qt_getI rfl rfl ?_; refine qt_iconst qc_1 ?_; refine qt_iadd ?_; refine qt_putI rfl ?_; refine qt_goto ?_; exact qt_z rfl rfl rfl rfl rfl) ⟨(q_id_of rfl), (q_id_of rfl)⟩ ?_
      exact h
theorem eX12_pass {d : Nat}  {w : q_Sm} {Q : s_Po} {X : s_Xo} (h : vX12_pass_0 d  w Q X) : s_Ev (d + 1) 0 mX12_pass w [.ref (79)] Q X := s_of (by decide +kernel) rfl (Nat.le_of_ble_eq_true rfl) (xX12_pass_0 h)
def vX12_readNumber_0 (d : Nat) (x1 : Int32) (x2 : Int32) (w : q_Sm) (Q : s_Po) (X : s_Xo) : Prop := s_EvI d 0 mX12_fine w [.ref (79)] (fun v1 u2 => ((¬ v1 = 0) → s_EvI d 0 mX12_here u2 [.ref (79)] (fun v3 u4 => s_EvI d 0 mX12_isDigit u4 [.int (v3)] (fun v5 u6 => ((¬ v5 = 0) → s_Ex (d + 1) 0 mX12_readNumber 41 [some (.ref (79)), some (.int (x1)), some (.int (x2)), none, some (.int (u4.1 79 4)), some (.int (0))] [] u6 Q X) ∧ (¬ (¬ v5 = 0) → s_EvV d 0 mX12_wrong u6 [.ref (79), .int (1), .int (u6.1 79 4)] (fun u8 => Q (some (.int (0))) u8) X)) X) X) ∧ (¬ (¬ v1 = 0) → Q (some (.int (0))) u2)) X
def vX12_readNumber_41 (d : Nat) (x1 : Int32) (x2 : Int32) (x4 : Int32) (x5 : Int32) (w : q_Sm) (Q : s_Po) (X : s_Xo) : Prop := (((w.1 79 3) ≤ (w.1 79 4)) → ((x5 < x1) → s_EvV d 0 mX12_wrong w [.ref (79), .int (2), .int (x4)] (fun u10 => Q (some (.int (0))) u10) X) ∧ (¬ (x5 < x1) → ((x5 ≤ x2) → Q (some (.int (x5))) w) ∧ (¬ (x5 ≤ x2) → s_EvV d 0 mX12_wrong w [.ref (79), .int (2), .int (x4)] (fun u12 => Q (some (.int (0))) u12) X))) ∧ (¬ ((w.1 79 3) ≤ (w.1 79 4)) → (vp_in (w.1 79 4) 600) ∧ s_EvI d 0 mX12_isDigit w [.int (w.1 81 (Int32.toNatClampNeg (w.1 79 4)))] (fun v13 u14 => ((v13 = 0) → ((x5 < x1) → s_EvV d 0 mX12_wrong u14 [.ref (79), .int (2), .int (x4)] (fun u16 => Q (some (.int (0))) u16) X) ∧ (¬ (x5 < x1) → ((x5 ≤ x2) → Q (some (.int (x5))) u14) ∧ (¬ (x5 ≤ x2) → s_EvV d 0 mX12_wrong u14 [.ref (79), .int (2), .int (x4)] (fun u18 => Q (some (.int (0))) u18) X))) ∧ (¬ (v13 = 0) → ((x5 ≤ 9999) → (vp_in (u14.1 79 4) 600) ∧ ∀ w_19 : q_Sm, w_19 = q_wI u14 79 4 ((u14.1 79 4) + 1) → s_Ex (d + 1) 0 mX12_readNumber 41 [some (.ref (79)), some (.int (x1)), some (.int (x2)), none, some (.int (x4)), some (.int (((10 * x5) + (u14.1 81 (Int32.toNatClampNeg (u14.1 79 4)))) - 48))] [] w_19 Q X) ∧ (¬ (x5 ≤ 9999) → ∀ w_21 : q_Sm, w_21 = q_wI u14 79 4 ((u14.1 79 4) + 1) → s_Ex (d + 1) 0 mX12_readNumber 41 [some (.ref (79)), some (.int (x1)), some (.int (x2)), none, some (.int (x4)), some (.int (10000))] [] w_21 Q X))) X)
theorem xX12_readNumber_0 {d : Nat} {x1 : Int32} {x2 : Int32} {w : q_Sm} {Q : s_Po} {X : s_Xo} (h : vX12_readNumber_0 d x1 x2 w Q X) : s_Ex (d + 1) 0 mX12_readNumber 0 [some (.ref (79)), some (.int (x1)), some (.int (x2)), none, none, none] [] w Q X := by
  unfold vX12_readNumber_0 at h
  refine s_blk [(.aload_n 0, 1, 0, 0)] 1 [some (.ref (79)), some (.int (x1)), some (.int (x2)), none, none, none] [.ref (79)] w [] (by decide +kernel) (by refine qt_aload_n (r := 79) rfl ?_; exact qt_z rfl rfl rfl rfl rfl) trivial ?_
  refine s_callV (a := 0) (a' := 0) (As := []) (id := 79) (st := []) kX12_fine l_12_164 (by decide +kernel) (q_id_of rfl) rfl (Nat.le_of_ble_eq_true rfl) (s_mono h (s_I_of (fun v1 u2 h => ?_)) (fun _ _ h9 => h9))
  show s_Ex (d + 1) 0 mX12_readNumber 4 [some (.ref (79)), some (.int (x1)), some (.int (x2)), none, none, none] [.int (v1)] u2 Q X
  refine s_if (cd := .ne) (off := 5) 9 (by decide +kernel) (by decide) (fun hc => ?_) (fun hc => ?_)
  · replace h := h.1 hc
    refine s_blk [(.aload_n 0, 1, 0, 0)] 10 [some (.ref (79)), some (.int (x1)), some (.int (x2)), none, none, none] [.ref (79)] u2 [] (by decide +kernel) (by refine qt_aload_n (r := 79) rfl ?_; exact qt_z rfl rfl rfl rfl rfl) trivial ?_
    refine s_callV (a := 0) (a' := 0) (As := []) (id := 79) (st := []) kX12_here l_12_147 (by decide +kernel) (q_id_of rfl) rfl (Nat.le_of_ble_eq_true rfl) (s_mono h (s_I_of (fun v3 u4 h => ?_)) (fun _ _ h9 => h9))
    show s_Ex (d + 1) 0 mX12_readNumber 13 [some (.ref (79)), some (.int (x1)), some (.int (x2)), none, none, none] [.int (v3)] u4 Q X
    refine s_blk [(.istore_n 3, 1, 0, 0), (.aload_n 0, 1, 0, 0), (.getfield 141, 3, 12, 4), (.istore 4, 2, 0, 0), (.iconst 0, 1, 0, 0), (.istore 5, 2, 0, 0), (.iload_n 3, 1, 0, 0)] 24 [some (.ref (79)), some (.int (x1)), some (.int (x2)), some (.int (v3)), some (.int (u4.1 79 4)), some (.int (0))] [.int (v3)] u4 [q_id 116 12 79] (by decide +kernel) (by refine qt_istore_n (L' := [some (.ref (79)), some (.int (x1)), some (.int (x2)), some (.int (v3)), none, none]) rfl ?_; refine qt_aload_n (r := 79) rfl ?_; refine qt_getI rfl rfl ?_; refine qt_istore (L' := [some (.ref (79)), some (.int (x1)), some (.int (x2)), some (.int (v3)), some (.int (u4.1 79 4)), none]) rfl ?_; refine qt_iconst qc_0 ?_; refine qt_istore (L' := [some (.ref (79)), some (.int (x1)), some (.int (x2)), some (.int (v3)), some (.int (u4.1 79 4)), some (.int (0))]) rfl ?_; refine qt_iload_n (x := v3) rfl ?_; exact qt_z rfl rfl rfl rfl rfl) (q_id_of rfl) ?_
    refine s_callS (a := 0) (a' := 0) (As := [.int (v3)]) (st := []) kX12_isDigit l_12_168 (by decide +kernel) rfl (Nat.le_of_ble_eq_true rfl) (s_mono h (s_I_of (fun v5 u6 h => ?_)) (fun _ _ h9 => h9))
    show s_Ex (d + 1) 0 mX12_readNumber 27 [some (.ref (79)), some (.int (x1)), some (.int (x2)), some (.int (v3)), some (.int (u4.1 79 4)), some (.int (0))] [.int (v5)] u6 Q X
    refine s_if (cd := .ne) (off := 14) 41 (by decide +kernel) (by decide) (fun hc => ?_) (fun hc => ?_)
    · replace h := h.1 hc
      refine s_blk [(.nop, 0, 3, 0)] 41 [some (.ref (79)), some (.int (x1)), some (.int (x2)), none, some (.int (u4.1 79 4)), some (.int (0))] [] u6 [] (by decide +kernel) (by refine qt_nop (L' := [some (.ref (79)), some (.int (x1)), some (.int (x2)), none, some (.int (u4.1 79 4)), some (.int (0))]) rfl ?_; exact qt_z rfl rfl rfl rfl rfl) trivial ?_
      exact h
    · replace h := h.2 hc
      refine s_blk [(.aload_n 0, 1, 0, 0), (.iconst 1, 1, 0, 0), (.aload_n 0, 1, 0, 0), (.getfield 141, 3, 12, 4)] 36 [some (.ref (79)), some (.int (x1)), some (.int (x2)), some (.int (v3)), some (.int (u4.1 79 4)), some (.int (0))] [.int (u6.1 79 4), .int (1), .ref (79)] u6 [q_id 116 12 79] (by decide +kernel) (by refine qt_aload_n (r := 79) rfl ?_; refine qt_iconst qc_1 ?_; refine qt_aload_n (r := 79) rfl ?_; refine qt_getI rfl rfl ?_; exact qt_z rfl rfl rfl rfl rfl) (q_id_of rfl) ?_
      refine s_callV (a := 0) (a' := 0) (As := [.int (1), .int (u6.1 79 4)]) (id := 79) (st := []) kX12_wrong l_12_171 (by decide +kernel) (q_id_of rfl) rfl (Nat.le_of_ble_eq_true rfl) (s_mono h (s_V_of (fun u8 h => ?_)) (fun _ _ h9 => h9))
      show s_Ex (d + 1) 0 mX12_readNumber 39 [some (.ref (79)), some (.int (x1)), some (.int (x2)), some (.int (v3)), some (.int (u4.1 79 4)), some (.int (0))] [] u8 Q X
      refine s_blk [(.iconst 0, 1, 0, 0)] 40 [some (.ref (79)), some (.int (x1)), some (.int (x2)), some (.int (v3)), some (.int (u4.1 79 4)), some (.int (0))] [.int (0)] u8 [] (by decide +kernel) (by refine qt_iconst qc_0 ?_; exact qt_z rfl rfl rfl rfl rfl) trivial ?_
      exact s_retI .int (by decide +kernel) rfl rfl h
  · replace h := h.2 hc
    refine s_blk [(.iconst 0, 1, 0, 0)] 8 [some (.ref (79)), some (.int (x1)), some (.int (x2)), none, none, none] [.int (0)] u2 [] (by decide +kernel) (by refine qt_iconst qc_0 ?_; exact qt_z rfl rfl rfl rfl rfl) trivial ?_
    exact s_retI .int (by decide +kernel) rfl rfl h
theorem xX12_readNumber_41 {d : Nat} {x1 : Int32} {x2 : Int32} {x4 : Int32} {x5 : Int32} {w : q_Sm} {Q : s_Po} {X : s_Xo} (h : vX12_readNumber_41 d x1 x2 x4 x5 w Q X) : s_Ex (d + 1) 0 mX12_readNumber 41 [some (.ref (79)), some (.int (x1)), some (.int (x2)), none, some (.int (x4)), some (.int (x5))] [] w Q X := by
  unfold vX12_readNumber_41 at h
  refine s_blk [(.aload_n 0, 1, 0, 0), (.getfield 141, 3, 12, 4), (.aload_n 0, 1, 0, 0), (.getfield 144, 3, 12, 3)] 49 [some (.ref (79)), some (.int (x1)), some (.int (x2)), none, some (.int (x4)), some (.int (x5))] [.int (w.1 79 3), .int (w.1 79 4)] w [q_id 116 12 79, q_id 116 12 79] (by decide +kernel) (by refine qt_aload_n (r := 79) rfl ?_; refine qt_getI rfl rfl ?_; refine qt_aload_n (r := 79) rfl ?_; refine qt_getI rfl rfl ?_; exact qt_z rfl rfl rfl rfl rfl) ⟨(q_id_of rfl), (q_id_of rfl)⟩ ?_
  refine s_icmp (cd := .ge) (off := 65) 114 (by decide +kernel) (by decide) (fun hc => ?_) (fun hc => ?_)
  · replace h := h.1 hc
    refine s_blk [(.iload 5, 2, 0, 0), (.iload_n 1, 1, 0, 0)] 117 [some (.ref (79)), some (.int (x1)), some (.int (x2)), none, some (.int (x4)), some (.int (x5))] [.int (x1), .int (x5)] w [] (by decide +kernel) (by refine qt_iload (x := x5) rfl ?_; refine qt_iload_n (x := x1) rfl ?_; exact qt_z rfl rfl rfl rfl rfl) trivial ?_
    refine s_icmp (cd := .lt) (off := 9) 126 (by decide +kernel) (by decide) (fun hc => ?_) (fun hc => ?_)
    · replace h := h.1 hc
      refine s_blk [(.aload_n 0, 1, 0, 0), (.iconst 2, 1, 0, 0), (.iload 4, 2, 0, 0)] 130 [some (.ref (79)), some (.int (x1)), some (.int (x2)), none, some (.int (x4)), some (.int (x5))] [.int (x4), .int (2), .ref (79)] w [] (by decide +kernel) (by refine qt_aload_n (r := 79) rfl ?_; refine qt_iconst qc_2 ?_; refine qt_iload (x := x4) rfl ?_; exact qt_z rfl rfl rfl rfl rfl) trivial ?_
      refine s_callV (a := 0) (a' := 0) (As := [.int (2), .int (x4)]) (id := 79) (st := []) kX12_wrong l_12_171 (by decide +kernel) (q_id_of rfl) rfl (Nat.le_of_ble_eq_true rfl) (s_mono h (s_V_of (fun u10 h => ?_)) (fun _ _ h9 => h9))
      show s_Ex (d + 1) 0 mX12_readNumber 133 [some (.ref (79)), some (.int (x1)), some (.int (x2)), none, some (.int (x4)), some (.int (x5))] [] u10 Q X
      refine s_blk [(.iconst 0, 1, 0, 0)] 134 [some (.ref (79)), some (.int (x1)), some (.int (x2)), none, some (.int (x4)), some (.int (x5))] [.int (0)] u10 [] (by decide +kernel) (by refine qt_iconst qc_0 ?_; exact qt_z rfl rfl rfl rfl rfl) trivial ?_
      exact s_retI .int (by decide +kernel) rfl rfl h
    · replace h := h.2 hc
      refine s_blk [(.iload 5, 2, 0, 0), (.iload_n 2, 1, 0, 0)] 123 [some (.ref (79)), some (.int (x1)), some (.int (x2)), none, some (.int (x4)), some (.int (x5))] [.int (x2), .int (x5)] w [] (by decide +kernel) (by refine qt_iload (x := x5) rfl ?_; refine qt_iload_n (x := x2) rfl ?_; exact qt_z rfl rfl rfl rfl rfl) trivial ?_
      refine s_icmp (cd := .le) (off := 12) 135 (by decide +kernel) (by decide) (fun hc => ?_) (fun hc => ?_)
      · replace h := h.1 hc
        refine s_blk [(.iload 5, 2, 0, 0)] 137 [some (.ref (79)), some (.int (x1)), some (.int (x2)), none, some (.int (x4)), some (.int (x5))] [.int (x5)] w [] (by decide +kernel) (by refine qt_iload (x := x5) rfl ?_; exact qt_z rfl rfl rfl rfl rfl) trivial ?_
        exact s_retI .int (by decide +kernel) rfl rfl h
      · replace h := h.2 hc
        refine s_blk [(.aload_n 0, 1, 0, 0), (.iconst 2, 1, 0, 0), (.iload 4, 2, 0, 0)] 130 [some (.ref (79)), some (.int (x1)), some (.int (x2)), none, some (.int (x4)), some (.int (x5))] [.int (x4), .int (2), .ref (79)] w [] (by decide +kernel) (by refine qt_aload_n (r := 79) rfl ?_; refine qt_iconst qc_2 ?_; refine qt_iload (x := x4) rfl ?_; exact qt_z rfl rfl rfl rfl rfl) trivial ?_
        refine s_callV (a := 0) (a' := 0) (As := [.int (2), .int (x4)]) (id := 79) (st := []) kX12_wrong l_12_171 (by decide +kernel) (q_id_of rfl) rfl (Nat.le_of_ble_eq_true rfl) (s_mono h (s_V_of (fun u12 h => ?_)) (fun _ _ h9 => h9))
        show s_Ex (d + 1) 0 mX12_readNumber 133 [some (.ref (79)), some (.int (x1)), some (.int (x2)), none, some (.int (x4)), some (.int (x5))] [] u12 Q X
        refine s_blk [(.iconst 0, 1, 0, 0)] 134 [some (.ref (79)), some (.int (x1)), some (.int (x2)), none, some (.int (x4)), some (.int (x5))] [.int (0)] u12 [] (by decide +kernel) (by refine qt_iconst qc_0 ?_; exact qt_z rfl rfl rfl rfl rfl) trivial ?_
        exact s_retI .int (by decide +kernel) rfl rfl h
  · replace h := h.2 hc
    obtain ⟨ho22, h⟩ := h
    refine s_blk [(.aload_n 0, 1, 0, 0), (.getfield 20, 3, 12, 9), (.aload_n 0, 1, 0, 0), (.getfield 141, 3, 12, 4), (.iaload, 1, 0, 0)] 61 [some (.ref (79)), some (.int (x1)), some (.int (x2)), none, some (.int (x4)), some (.int (x5))] [.int (w.1 81 (Int32.toNatClampNeg (w.1 79 4)))] w [q_id 116 12 79, q_id 116 12 79, q_id 116 14 81, vp_in (w.1 79 4) 600] (by decide +kernel) (by refine qt_aload_n (r := 79) rfl ?_; refine qt_getR (r := 81) rfl rfl rfl ?_; refine qt_aload_n (r := 79) rfl ?_; refine qt_getI rfl rfl ?_; refine qt_iald ?_; exact qt_z rfl rfl rfl rfl rfl) ⟨(q_id_of rfl), (q_id_of rfl), (q_id_of rfl), ho22⟩ ?_
    refine s_callS (a := 0) (a' := 0) (As := [.int (w.1 81 (Int32.toNatClampNeg (w.1 79 4)))]) (st := []) kX12_isDigit l_12_168 (by decide +kernel) rfl (Nat.le_of_ble_eq_true rfl) (s_mono h (s_I_of (fun v13 u14 h => ?_)) (fun _ _ h9 => h9))
    show s_Ex (d + 1) 0 mX12_readNumber 64 [some (.ref (79)), some (.int (x1)), some (.int (x2)), none, some (.int (x4)), some (.int (x5))] [.int (v13)] u14 Q X
    refine s_if (cd := .eq) (off := 50) 114 (by decide +kernel) (by decide) (fun hc => ?_) (fun hc => ?_)
    · replace h := h.1 hc
      refine s_blk [(.iload 5, 2, 0, 0), (.iload_n 1, 1, 0, 0)] 117 [some (.ref (79)), some (.int (x1)), some (.int (x2)), none, some (.int (x4)), some (.int (x5))] [.int (x1), .int (x5)] u14 [] (by decide +kernel) (by refine qt_iload (x := x5) rfl ?_; refine qt_iload_n (x := x1) rfl ?_; exact qt_z rfl rfl rfl rfl rfl) trivial ?_
      refine s_icmp (cd := .lt) (off := 9) 126 (by decide +kernel) (by decide) (fun hc => ?_) (fun hc => ?_)
      · replace h := h.1 hc
        refine s_blk [(.aload_n 0, 1, 0, 0), (.iconst 2, 1, 0, 0), (.iload 4, 2, 0, 0)] 130 [some (.ref (79)), some (.int (x1)), some (.int (x2)), none, some (.int (x4)), some (.int (x5))] [.int (x4), .int (2), .ref (79)] u14 [] (by decide +kernel) (by refine qt_aload_n (r := 79) rfl ?_; refine qt_iconst qc_2 ?_; refine qt_iload (x := x4) rfl ?_; exact qt_z rfl rfl rfl rfl rfl) trivial ?_
        refine s_callV (a := 0) (a' := 0) (As := [.int (2), .int (x4)]) (id := 79) (st := []) kX12_wrong l_12_171 (by decide +kernel) (q_id_of rfl) rfl (Nat.le_of_ble_eq_true rfl) (s_mono h (s_V_of (fun u16 h => ?_)) (fun _ _ h9 => h9))
        show s_Ex (d + 1) 0 mX12_readNumber 133 [some (.ref (79)), some (.int (x1)), some (.int (x2)), none, some (.int (x4)), some (.int (x5))] [] u16 Q X
        refine s_blk [(.iconst 0, 1, 0, 0)] 134 [some (.ref (79)), some (.int (x1)), some (.int (x2)), none, some (.int (x4)), some (.int (x5))] [.int (0)] u16 [] (by decide +kernel) (by refine qt_iconst qc_0 ?_; exact qt_z rfl rfl rfl rfl rfl) trivial ?_
        exact s_retI .int (by decide +kernel) rfl rfl h
      · replace h := h.2 hc
        refine s_blk [(.iload 5, 2, 0, 0), (.iload_n 2, 1, 0, 0)] 123 [some (.ref (79)), some (.int (x1)), some (.int (x2)), none, some (.int (x4)), some (.int (x5))] [.int (x2), .int (x5)] u14 [] (by decide +kernel) (by refine qt_iload (x := x5) rfl ?_; refine qt_iload_n (x := x2) rfl ?_; exact qt_z rfl rfl rfl rfl rfl) trivial ?_
        refine s_icmp (cd := .le) (off := 12) 135 (by decide +kernel) (by decide) (fun hc => ?_) (fun hc => ?_)
        · replace h := h.1 hc
          refine s_blk [(.iload 5, 2, 0, 0)] 137 [some (.ref (79)), some (.int (x1)), some (.int (x2)), none, some (.int (x4)), some (.int (x5))] [.int (x5)] u14 [] (by decide +kernel) (by refine qt_iload (x := x5) rfl ?_; exact qt_z rfl rfl rfl rfl rfl) trivial ?_
          exact s_retI .int (by decide +kernel) rfl rfl h
        · replace h := h.2 hc
          refine s_blk [(.aload_n 0, 1, 0, 0), (.iconst 2, 1, 0, 0), (.iload 4, 2, 0, 0)] 130 [some (.ref (79)), some (.int (x1)), some (.int (x2)), none, some (.int (x4)), some (.int (x5))] [.int (x4), .int (2), .ref (79)] u14 [] (by decide +kernel) (by refine qt_aload_n (r := 79) rfl ?_; refine qt_iconst qc_2 ?_; refine qt_iload (x := x4) rfl ?_; exact qt_z rfl rfl rfl rfl rfl) trivial ?_
          refine s_callV (a := 0) (a' := 0) (As := [.int (2), .int (x4)]) (id := 79) (st := []) kX12_wrong l_12_171 (by decide +kernel) (q_id_of rfl) rfl (Nat.le_of_ble_eq_true rfl) (s_mono h (s_V_of (fun u18 h => ?_)) (fun _ _ h9 => h9))
          show s_Ex (d + 1) 0 mX12_readNumber 133 [some (.ref (79)), some (.int (x1)), some (.int (x2)), none, some (.int (x4)), some (.int (x5))] [] u18 Q X
          refine s_blk [(.iconst 0, 1, 0, 0)] 134 [some (.ref (79)), some (.int (x1)), some (.int (x2)), none, some (.int (x4)), some (.int (x5))] [.int (0)] u18 [] (by decide +kernel) (by refine qt_iconst qc_0 ?_; exact qt_z rfl rfl rfl rfl rfl) trivial ?_
          exact s_retI .int (by decide +kernel) rfl rfl h
    · replace h := h.2 hc
      refine s_blk [(.iload 5, 2, 0, 0), (.sipush 9999, 3, 0, 0)] 72 [some (.ref (79)), some (.int (x1)), some (.int (x2)), none, some (.int (x4)), some (.int (x5))] [.int (9999), .int (x5)] u14 [] (by decide +kernel) (by refine qt_iload (x := x5) rfl ?_; refine qt_sipush qs_9999 ?_; exact qt_z rfl rfl rfl rfl rfl) trivial ?_
      refine s_icmp (cd := .le) (off := 9) 81 (by decide +kernel) (by decide) (fun hc => ?_) (fun hc => ?_)
      · replace h := h.1 hc
        obtain ⟨ho20, h⟩ := h
        replace h := h _ rfl
        refine s_blk [(.bipush 10, 2, 0, 0), (.iload 5, 2, 0, 0), (.imul, 1, 0, 0), (.aload_n 0, 1, 0, 0), (.getfield 20, 3, 12, 9), (.aload_n 0, 1, 0, 0), (.getfield 141, 3, 12, 4), (.iaload, 1, 0, 0), (.iadd, 1, 0, 0), (.bipush 48, 2, 0, 0), (.isub, 1, 0, 0), (.istore 5, 2, 0, 0), (.aload_n 0, 1, 0, 0), (.dup, 1, 0, 0), (.getfield 141, 3, 12, 4), (.iconst 1, 1, 0, 0), (.iadd, 1, 0, 0), (.putfield 141, 3, 12, 4), (.goto (-70), 3, 41, 0)] 41 [some (.ref (79)), some (.int (x1)), some (.int (x2)), none, some (.int (x4)), some (.int (((10 * x5) + (u14.1 81 (Int32.toNatClampNeg (u14.1 79 4)))) - 48))] [] (q_wI u14 79 4 ((u14.1 79 4) + 1)) [q_id 116 12 79, q_id 116 12 79, q_id 116 14 81, vp_in (u14.1 79 4) 600, q_id 116 12 79, q_id 116 12 79] (by decide +kernel) (by refine qt_bipush qb_10 ?_; refine qt_iload (x := x5) rfl ?_; refine qt_imul ?_; refine qt_aload_n (r := 79) rfl ?_; refine qt_getR (r := 81) rfl rfl rfl ?_; refine qt_aload_n (r := 79) rfl ?_; refine qt_getI rfl rfl ?_; refine qt_iald ?_; refine qt_iadd ?_; refine qt_bipush qb_48 ?_; refine qt_isub ?_; refine qt_istore (L' := [some (.ref (79)), some (.int (x1)), some (.int (x2)), none, some (.int (x4)), some (.int (((10 * x5) + (u14.1 81 (Int32.toNatClampNeg (u14.1 79 4)))) - 48))]) rfl ?_; refine qt_aload_n (r := 79) rfl ?_; refine qt_dupR ?_; refine qt_getI rfl rfl ?_; refine qt_iconst qc_1 ?_; refine qt_iadd ?_; refine qt_putI rfl ?_; refine qt_goto ?_; exact qt_z rfl rfl rfl rfl rfl) ⟨(q_id_of rfl), (q_id_of rfl), (q_id_of rfl), ho20, (q_id_of rfl), (q_id_of rfl)⟩ ?_
        exact h
      · replace h := h.2 hc
        replace h := h _ rfl
        refine s_blk [(.sipush 10000, 3, 0, 0), (.goto 21, 3, 99, 0), (.istore 5, 2, 0, 0), (.aload_n 0, 1, 0, 0), (.dup, 1, 0, 0), (.getfield 141, 3, 12, 4), (.iconst 1, 1, 0, 0), (.iadd, 1, 0, 0), (.putfield 141, 3, 12, 4), (.goto (-70), 3, 41, 0)] 41 [some (.ref (79)), some (.int (x1)), some (.int (x2)), none, some (.int (x4)), some (.int (10000))] [] (q_wI u14 79 4 ((u14.1 79 4) + 1)) [q_id 116 12 79, q_id 116 12 79] (by decide +kernel) (by refine qt_sipush qs_10000 ?_; refine qt_goto ?_; refine qt_istore (L' := [some (.ref (79)), some (.int (x1)), some (.int (x2)), none, some (.int (x4)), some (.int (10000))]) rfl ?_; refine qt_aload_n (r := 79) rfl ?_; refine qt_dupR ?_; refine qt_getI rfl rfl ?_; refine qt_iconst qc_1 ?_; refine qt_iadd ?_; refine qt_putI rfl ?_; refine qt_goto ?_; exact qt_z rfl rfl rfl rfl rfl) ⟨(q_id_of rfl), (q_id_of rfl)⟩ ?_
        exact h
theorem eX12_readNumber {d : Nat} {x1 : Int32} {x2 : Int32} {w : q_Sm} {Q : s_Po} {X : s_Xo} (h : vX12_readNumber_0 d x1 x2 w Q X) : s_Ev (d + 1) 0 mX12_readNumber w [.ref (79), .int (x1), .int (x2)] Q X := s_of (by decide +kernel) rfl (Nat.le_of_ble_eq_true rfl) (xX12_readNumber_0 h)
def vX12_sign_0 (d : Nat) (x1 : Int32) (w : q_Sm) (Q : s_Po) (X : s_Xo) : Prop := s_EvI d 0 mX12_fine w [.ref (79)] (fun v1 u2 => ((v1 = 0) → s_EvI d 0 mX12_fine u2 [.ref (79)] (fun v3 u4 => ((v3 = 0) → Q none u4) ∧ (¬ (v3 = 0) → ∀ w_5 : q_Sm, w_5 = q_wI u4 79 4 ((u4.1 79 4) + 1) → Q none w_5)) X) ∧ (¬ (v1 = 0) → s_EvI d 0 mX12_here u2 [.ref (79)] (fun v6 u7 => ((v6 = x1) → s_EvI d 0 mX12_fine u7 [.ref (79)] (fun v8 u9 => ((v8 = 0) → Q none u9) ∧ (¬ (v8 = 0) → ∀ w_10 : q_Sm, w_10 = q_wI u9 79 4 ((u9.1 79 4) + 1) → Q none w_10)) X) ∧ (¬ (v6 = x1) → s_EvV d 0 mX12_wrong u7 [.ref (79), .int (1), .int (u7.1 79 4)] (fun u12 => s_EvI d 0 mX12_fine u12 [.ref (79)] (fun v13 u14 => ((v13 = 0) → Q none u14) ∧ (¬ (v13 = 0) → ∀ w_15 : q_Sm, w_15 = q_wI u14 79 4 ((u14.1 79 4) + 1) → Q none w_15)) X) X)) X)) X
theorem xX12_sign_0 {d : Nat} {x1 : Int32} {w : q_Sm} {Q : s_Po} {X : s_Xo} (h : vX12_sign_0 d x1 w Q X) : s_Ex (d + 1) 0 mX12_sign 0 [some (.ref (79)), some (.int (x1))] [] w Q X := by
  unfold vX12_sign_0 at h
  refine s_blk [(.aload_n 0, 1, 0, 0)] 1 [some (.ref (79)), some (.int (x1))] [.ref (79)] w [] (by decide +kernel) (by refine qt_aload_n (r := 79) rfl ?_; exact qt_z rfl rfl rfl rfl rfl) trivial ?_
  refine s_callV (a := 0) (a' := 0) (As := []) (id := 79) (st := []) kX12_fine l_12_164 (by decide +kernel) (q_id_of rfl) rfl (Nat.le_of_ble_eq_true rfl) (s_mono h (s_I_of (fun v1 u2 h => ?_)) (fun _ _ h9 => h9))
  show s_Ex (d + 1) 0 mX12_sign 4 [some (.ref (79)), some (.int (x1))] [.int (v1)] u2 Q X
  refine s_if (cd := .eq) (off := 20) 24 (by decide +kernel) (by decide) (fun hc => ?_) (fun hc => ?_)
  · replace h := h.1 hc
    refine s_blk [(.aload_n 0, 1, 0, 0)] 25 [some (.ref (79)), some (.int (x1))] [.ref (79)] u2 [] (by decide +kernel) (by refine qt_aload_n (r := 79) rfl ?_; exact qt_z rfl rfl rfl rfl rfl) trivial ?_
    refine s_callV (a := 0) (a' := 0) (As := []) (id := 79) (st := []) kX12_fine l_12_164 (by decide +kernel) (q_id_of rfl) rfl (Nat.le_of_ble_eq_true rfl) (s_mono h (s_I_of (fun v3 u4 h => ?_)) (fun _ _ h9 => h9))
    show s_Ex (d + 1) 0 mX12_sign 28 [some (.ref (79)), some (.int (x1))] [.int (v3)] u4 Q X
    refine s_if (cd := .eq) (off := 13) 41 (by decide +kernel) (by decide) (fun hc => ?_) (fun hc => ?_)
    · replace h := h.1 hc
      exact s_retV (by decide +kernel) rfl h
    · replace h := h.2 hc
      replace h := h _ rfl
      refine s_blk [(.aload_n 0, 1, 0, 0), (.dup, 1, 0, 0), (.getfield 141, 3, 12, 4), (.iconst 1, 1, 0, 0), (.iadd, 1, 0, 0), (.putfield 141, 3, 12, 4)] 41 [some (.ref (79)), some (.int (x1))] [] (q_wI u4 79 4 ((u4.1 79 4) + 1)) [q_id 116 12 79, q_id 116 12 79] (by decide +kernel) (by refine qt_aload_n (r := 79) rfl ?_; refine qt_dupR ?_; refine qt_getI rfl rfl ?_; refine qt_iconst qc_1 ?_; refine qt_iadd ?_; refine qt_putI rfl ?_; exact qt_z rfl rfl rfl rfl rfl) ⟨(q_id_of rfl), (q_id_of rfl)⟩ ?_
      exact s_retV (by decide +kernel) rfl h
  · replace h := h.2 hc
    refine s_blk [(.aload_n 0, 1, 0, 0)] 8 [some (.ref (79)), some (.int (x1))] [.ref (79)] u2 [] (by decide +kernel) (by refine qt_aload_n (r := 79) rfl ?_; exact qt_z rfl rfl rfl rfl rfl) trivial ?_
    refine s_callV (a := 0) (a' := 0) (As := []) (id := 79) (st := []) kX12_here l_12_147 (by decide +kernel) (q_id_of rfl) rfl (Nat.le_of_ble_eq_true rfl) (s_mono h (s_I_of (fun v6 u7 h => ?_)) (fun _ _ h9 => h9))
    show s_Ex (d + 1) 0 mX12_sign 11 [some (.ref (79)), some (.int (x1))] [.int (v6)] u7 Q X
    refine s_blk [(.iload_n 1, 1, 0, 0)] 12 [some (.ref (79)), some (.int (x1))] [.int (x1), .int (v6)] u7 [] (by decide +kernel) (by refine qt_iload_n (x := x1) rfl ?_; exact qt_z rfl rfl rfl rfl rfl) trivial ?_
    refine s_icmp (cd := .eq) (off := 12) 24 (by decide +kernel) (by decide) (fun hc => ?_) (fun hc => ?_)
    · replace h := h.1 hc
      refine s_blk [(.aload_n 0, 1, 0, 0)] 25 [some (.ref (79)), some (.int (x1))] [.ref (79)] u7 [] (by decide +kernel) (by refine qt_aload_n (r := 79) rfl ?_; exact qt_z rfl rfl rfl rfl rfl) trivial ?_
      refine s_callV (a := 0) (a' := 0) (As := []) (id := 79) (st := []) kX12_fine l_12_164 (by decide +kernel) (q_id_of rfl) rfl (Nat.le_of_ble_eq_true rfl) (s_mono h (s_I_of (fun v8 u9 h => ?_)) (fun _ _ h9 => h9))
      show s_Ex (d + 1) 0 mX12_sign 28 [some (.ref (79)), some (.int (x1))] [.int (v8)] u9 Q X
      refine s_if (cd := .eq) (off := 13) 41 (by decide +kernel) (by decide) (fun hc => ?_) (fun hc => ?_)
      · replace h := h.1 hc
        exact s_retV (by decide +kernel) rfl h
      · replace h := h.2 hc
        replace h := h _ rfl
        refine s_blk [(.aload_n 0, 1, 0, 0), (.dup, 1, 0, 0), (.getfield 141, 3, 12, 4), (.iconst 1, 1, 0, 0), (.iadd, 1, 0, 0), (.putfield 141, 3, 12, 4)] 41 [some (.ref (79)), some (.int (x1))] [] (q_wI u9 79 4 ((u9.1 79 4) + 1)) [q_id 116 12 79, q_id 116 12 79] (by decide +kernel) (by refine qt_aload_n (r := 79) rfl ?_; refine qt_dupR ?_; refine qt_getI rfl rfl ?_; refine qt_iconst qc_1 ?_; refine qt_iadd ?_; refine qt_putI rfl ?_; exact qt_z rfl rfl rfl rfl rfl) ⟨(q_id_of rfl), (q_id_of rfl)⟩ ?_
        exact s_retV (by decide +kernel) rfl h
    · replace h := h.2 hc
      refine s_blk [(.aload_n 0, 1, 0, 0), (.iconst 1, 1, 0, 0), (.aload_n 0, 1, 0, 0), (.getfield 141, 3, 12, 4)] 21 [some (.ref (79)), some (.int (x1))] [.int (u7.1 79 4), .int (1), .ref (79)] u7 [q_id 116 12 79] (by decide +kernel) (by refine qt_aload_n (r := 79) rfl ?_; refine qt_iconst qc_1 ?_; refine qt_aload_n (r := 79) rfl ?_; refine qt_getI rfl rfl ?_; exact qt_z rfl rfl rfl rfl rfl) (q_id_of rfl) ?_
      refine s_callV (a := 0) (a' := 0) (As := [.int (1), .int (u7.1 79 4)]) (id := 79) (st := []) kX12_wrong l_12_171 (by decide +kernel) (q_id_of rfl) rfl (Nat.le_of_ble_eq_true rfl) (s_mono h (s_V_of (fun u12 h => ?_)) (fun _ _ h9 => h9))
      show s_Ex (d + 1) 0 mX12_sign 24 [some (.ref (79)), some (.int (x1))] [] u12 Q X
      refine s_blk [(.aload_n 0, 1, 0, 0)] 25 [some (.ref (79)), some (.int (x1))] [.ref (79)] u12 [] (by decide +kernel) (by refine qt_aload_n (r := 79) rfl ?_; exact qt_z rfl rfl rfl rfl rfl) trivial ?_
      refine s_callV (a := 0) (a' := 0) (As := []) (id := 79) (st := []) kX12_fine l_12_164 (by decide +kernel) (q_id_of rfl) rfl (Nat.le_of_ble_eq_true rfl) (s_mono h (s_I_of (fun v13 u14 h => ?_)) (fun _ _ h9 => h9))
      show s_Ex (d + 1) 0 mX12_sign 28 [some (.ref (79)), some (.int (x1))] [.int (v13)] u14 Q X
      refine s_if (cd := .eq) (off := 13) 41 (by decide +kernel) (by decide) (fun hc => ?_) (fun hc => ?_)
      · replace h := h.1 hc
        exact s_retV (by decide +kernel) rfl h
      · replace h := h.2 hc
        replace h := h _ rfl
        refine s_blk [(.aload_n 0, 1, 0, 0), (.dup, 1, 0, 0), (.getfield 141, 3, 12, 4), (.iconst 1, 1, 0, 0), (.iadd, 1, 0, 0), (.putfield 141, 3, 12, 4)] 41 [some (.ref (79)), some (.int (x1))] [] (q_wI u14 79 4 ((u14.1 79 4) + 1)) [q_id 116 12 79, q_id 116 12 79] (by decide +kernel) (by refine qt_aload_n (r := 79) rfl ?_; refine qt_dupR ?_; refine qt_getI rfl rfl ?_; refine qt_iconst qc_1 ?_; refine qt_iadd ?_; refine qt_putI rfl ?_; exact qt_z rfl rfl rfl rfl rfl) ⟨(q_id_of rfl), (q_id_of rfl)⟩ ?_
        exact s_retV (by decide +kernel) rfl h
theorem eX12_sign {d : Nat} {x1 : Int32} {w : q_Sm} {Q : s_Po} {X : s_Xo} (h : vX12_sign_0 d x1 w Q X) : s_Ev (d + 1) 0 mX12_sign w [.ref (79), .int (x1)] Q X := s_of (by decide +kernel) rfl (Nat.le_of_ble_eq_true rfl) (xX12_sign_0 h)
def vX12_isMore_0 (d : Nat)  (w : q_Sm) (Q : s_Po) (X : s_Xo) : Prop := s_EvI d 0 mX12_here w [.ref (79)] (fun v1 u2 => (((u2.1 79 3) ≤ (u2.1 79 4)) → Q (some (.int (0))) u2) ∧ (¬ ((u2.1 79 3) ≤ (u2.1 79 4)) → Q (some (.int (1))) u2)) X
theorem xX12_isMore_0 {d : Nat}  {w : q_Sm} {Q : s_Po} {X : s_Xo} (h : vX12_isMore_0 d  w Q X) : s_Ex (d + 1) 0 mX12_isMore 0 [some (.ref (79))] [] w Q X := by
  unfold vX12_isMore_0 at h
  refine s_blk [(.aload_n 0, 1, 0, 0)] 1 [some (.ref (79))] [.ref (79)] w [] (by decide +kernel) (by refine qt_aload_n (r := 79) rfl ?_; exact qt_z rfl rfl rfl rfl rfl) trivial ?_
  refine s_callV (a := 0) (a' := 0) (As := []) (id := 79) (st := []) kX12_here l_12_147 (by decide +kernel) (q_id_of rfl) rfl (Nat.le_of_ble_eq_true rfl) (s_mono h (s_I_of (fun v1 u2 h => ?_)) (fun _ _ h9 => h9))
  show s_Ex (d + 1) 0 mX12_isMore 4 [some (.ref (79))] [.int (v1)] u2 Q X
  refine s_blk [(.pop, 1, 0, 0), (.aload_n 0, 1, 0, 0), (.getfield 141, 3, 12, 4), (.aload_n 0, 1, 0, 0), (.getfield 144, 3, 12, 3)] 13 [some (.ref (79))] [.int (u2.1 79 3), .int (u2.1 79 4)] u2 [q_id 116 12 79, q_id 116 12 79] (by decide +kernel) (by refine qt_pop ?_; refine qt_aload_n (r := 79) rfl ?_; refine qt_getI rfl rfl ?_; refine qt_aload_n (r := 79) rfl ?_; refine qt_getI rfl rfl ?_; exact qt_z rfl rfl rfl rfl rfl) ⟨(q_id_of rfl), (q_id_of rfl)⟩ ?_
  refine s_icmp (cd := .ge) (off := 7) 20 (by decide +kernel) (by decide) (fun hc => ?_) (fun hc => ?_)
  · replace h := h.1 hc
    refine s_blk [(.iconst 0, 1, 0, 0)] 21 [some (.ref (79))] [.int (0)] u2 [] (by decide +kernel) (by refine qt_iconst qc_0 ?_; exact qt_z rfl rfl rfl rfl rfl) trivial ?_
    exact s_retI .boolean (by decide +kernel) rfl rfl h
  · replace h := h.2 hc
    refine s_blk [(.iconst 1, 1, 0, 0), (.goto 4, 3, 21, 0)] 21 [some (.ref (79))] [.int (1)] u2 [] (by decide +kernel) (by refine qt_iconst qc_1 ?_; refine qt_goto ?_; exact qt_z rfl rfl rfl rfl rfl) trivial ?_
    exact s_retI .boolean (by decide +kernel) rfl rfl h
theorem eX12_isMore {d : Nat}  {w : q_Sm} {Q : s_Po} {X : s_Xo} (h : vX12_isMore_0 d  w Q X) : s_Ev (d + 1) 0 mX12_isMore w [.ref (79)] Q X := s_of (by decide +kernel) rfl (Nat.le_of_ble_eq_true rfl) (xX12_isMore_0 h)
def vX12_begins_0 (d : Nat) (x1 : Int32) (w : q_Sm) (Q : s_Po) (X : s_Xo) : Prop := ∀ w_1 : q_Sm, w_1 = q_wI w 79 2 0 → ∀ w_2 : q_Sm, w_2 = q_wI w_1 79 8 (-1) → ∀ w_3 : q_Sm, w_3 = q_wI w_2 79 3 x1 → ∀ w_4 : q_Sm, w_4 = q_wI w_3 79 4 0 → ∀ w_5 : q_Sm, w_5 = q_wI w_4 79 5 (-1) → ∀ w_6 : q_Sm, w_6 = q_wI w_5 79 7 0 → Q none w_6
theorem xX12_begins_0 {d : Nat} {x1 : Int32} {w : q_Sm} {Q : s_Po} {X : s_Xo} (h : vX12_begins_0 d x1 w Q X) : s_Ex (d + 1) 0 mX12_begins 0 [some (.ref (79)), some (.int (x1))] [] w Q X := by
  unfold vX12_begins_0 at h
  replace h := h _ rfl
  replace h := h _ rfl
  replace h := h _ rfl
  replace h := h _ rfl
  replace h := h _ rfl
  replace h := h _ rfl
  refine s_blk [(.aload_n 0, 1, 0, 0), (.iconst 0, 1, 0, 0), (.putfield 132, 3, 12, 2), (.aload_n 0, 1, 0, 0), (.iconst (-1), 1, 0, 0), (.putfield 17, 3, 12, 8), (.aload_n 0, 1, 0, 0), (.iload_n 1, 1, 0, 0), (.putfield 144, 3, 12, 3), (.aload_n 0, 1, 0, 0), (.iconst 0, 1, 0, 0), (.putfield 141, 3, 12, 4), (.aload_n 0, 1, 0, 0), (.iconst (-1), 1, 0, 0), (.putfield 135, 3, 12, 5), (.aload_n 0, 1, 0, 0), (.iconst 0, 1, 0, 0), (.putfield 175, 3, 12, 7)] 30 [some (.ref (79)), some (.int (x1))] [] (q_wI (q_wI (q_wI (q_wI (q_wI (q_wI w 79 2 0) 79 8 (-1)) 79 3 x1) 79 4 0) 79 5 (-1)) 79 7 0) [q_id 116 12 79, q_id 116 12 79, q_id 116 12 79, q_id 116 12 79, q_id 116 12 79, q_id 116 12 79] (by decide +kernel) (by refine qt_aload_n (r := 79) rfl ?_; refine qt_iconst qc_0 ?_; refine qt_putI rfl ?_; refine qt_aload_n (r := 79) rfl ?_; refine qt_iconst qc_m1 ?_; refine qt_putI rfl ?_; refine qt_aload_n (r := 79) rfl ?_; refine qt_iload_n (x := x1) rfl ?_; refine qt_putI rfl ?_; refine qt_aload_n (r := 79) rfl ?_; refine qt_iconst qc_0 ?_; refine qt_putI rfl ?_; refine qt_aload_n (r := 79) rfl ?_; refine qt_iconst qc_m1 ?_; refine qt_putI rfl ?_; refine qt_aload_n (r := 79) rfl ?_; refine qt_iconst qc_0 ?_; refine qt_putI rfl ?_; exact qt_z rfl rfl rfl rfl rfl) ⟨(q_id_of rfl), (q_id_of rfl), (q_id_of rfl), (q_id_of rfl), (q_id_of rfl), (q_id_of rfl)⟩ ?_
  exact s_retV (by decide +kernel) rfl h
theorem eX12_begins {d : Nat} {x1 : Int32} {w : q_Sm} {Q : s_Po} {X : s_Xo} (h : vX12_begins_0 d x1 w Q X) : s_Ev (d + 1) 0 mX12_begins w [.ref (79), .int (x1)] Q X := s_of (by decide +kernel) rfl (Nat.le_of_ble_eq_true rfl) (xX12_begins_0 h)
def vX12_result_0 (d : Nat) (x1 : Int32) (w : q_Sm) (Q : s_Po) (X : s_Xo) : Prop := ∀ w_1 : q_Sm, w_1 = q_wI w 79 8 (w.1 79 5) → s_EvI d 0 mX12_fine w_1 [.ref (79)] (fun v2 u3 => ((v2 = 0) → Q (some (.int ((u3.1 79 6) - 10))) u3) ∧ (¬ (v2 = 0) → Q (some (.int (x1))) u3)) X
theorem xX12_result_0 {d : Nat} {x1 : Int32} {w : q_Sm} {Q : s_Po} {X : s_Xo} (h : vX12_result_0 d x1 w Q X) : s_Ex (d + 1) 0 mX12_result 0 [some (.ref (79)), some (.int (x1))] [] w Q X := by
  unfold vX12_result_0 at h
  replace h := h _ rfl
  refine s_blk [(.aload_n 0, 1, 0, 0), (.aload_n 0, 1, 0, 0), (.getfield 135, 3, 12, 5), (.putfield 17, 3, 12, 8), (.aload_n 0, 1, 0, 0)] 9 [some (.ref (79)), some (.int (x1))] [.ref (79)] (q_wI w 79 8 (w.1 79 5)) [q_id 116 12 79, q_id 116 12 79] (by decide +kernel) (by refine qt_aload_n (r := 79) rfl ?_; refine qt_aload_n (r := 79) rfl ?_; refine qt_getI rfl rfl ?_; refine qt_putI rfl ?_; refine qt_aload_n (r := 79) rfl ?_; exact qt_z rfl rfl rfl rfl rfl) ⟨(q_id_of rfl), (q_id_of rfl)⟩ ?_
  refine s_callV (a := 0) (a' := 0) (As := []) (id := 79) (st := []) kX12_fine l_12_164 (by decide +kernel) (q_id_of rfl) rfl (Nat.le_of_ble_eq_true rfl) (s_mono h (s_I_of (fun v2 u3 h => ?_)) (fun _ _ h9 => h9))
  show s_Ex (d + 1) 0 mX12_result 12 [some (.ref (79)), some (.int (x1))] [.int (v2)] u3 Q X
  refine s_if (cd := .eq) (off := 7) 19 (by decide +kernel) (by decide) (fun hc => ?_) (fun hc => ?_)
  · replace h := h.1 hc
    refine s_blk [(.aload_n 0, 1, 0, 0), (.getfield 138, 3, 12, 6), (.bipush 10, 2, 0, 0), (.isub, 1, 0, 0)] 26 [some (.ref (79)), some (.int (x1))] [.int ((u3.1 79 6) - 10)] u3 [q_id 116 12 79] (by decide +kernel) (by refine qt_aload_n (r := 79) rfl ?_; refine qt_getI rfl rfl ?_; refine qt_bipush qb_10 ?_; refine qt_isub ?_; exact qt_z rfl rfl rfl rfl rfl) (q_id_of rfl) ?_
    exact s_retI .int (by decide +kernel) rfl rfl h
  · replace h := h.2 hc
    refine s_blk [(.iload_n 1, 1, 0, 0), (.goto 10, 3, 26, 0)] 26 [some (.ref (79)), some (.int (x1))] [.int (x1)] u3 [] (by decide +kernel) (by refine qt_iload_n (x := x1) rfl ?_; refine qt_goto ?_; exact qt_z rfl rfl rfl rfl rfl) trivial ?_
    exact s_retI .int (by decide +kernel) rfl rfl h
theorem eX12_result {d : Nat} {x1 : Int32} {w : q_Sm} {Q : s_Po} {X : s_Xo} (h : vX12_result_0 d x1 w Q X) : s_Ev (d + 1) 0 mX12_result w [.ref (79), .int (x1)] Q X := s_of (by decide +kernel) rfl (Nat.le_of_ble_eq_true rfl) (xX12_result_0 h)
def vX12_fault_0 (d : Nat)  (w : q_Sm) (Q : s_Po) (X : s_Xo) : Prop := ∀ w_1 : q_Sm, w_1 = q_wI w 79 0 0 → Q (some (.int (w_1.1 79 8))) w_1
theorem xX12_fault_0 {d : Nat}  {w : q_Sm} {Q : s_Po} {X : s_Xo} (h : vX12_fault_0 d  w Q X) : s_Ex (d + 1) 0 mX12_fault 0 [some (.ref (79))] [] w Q X := by
  unfold vX12_fault_0 at h
  replace h := h _ rfl
  refine s_blk [(.aload_n 0, 1, 0, 0), (.iconst 0, 1, 0, 0), (.putfield 3, 3, 12, 0), (.aload_n 0, 1, 0, 0), (.getfield 17, 3, 12, 8)] 9 [some (.ref (79))] [.int ((q_wI w 79 0 0).1 79 8)] (q_wI w 79 0 0) [q_id 116 12 79, q_id 116 12 79] (by decide +kernel) (by refine qt_aload_n (r := 79) rfl ?_; refine qt_iconst qc_0 ?_; refine qt_putI rfl ?_; refine qt_aload_n (r := 79) rfl ?_; refine qt_getI rfl rfl ?_; exact qt_z rfl rfl rfl rfl rfl) ⟨(q_id_of rfl), (q_id_of rfl)⟩ ?_
  exact s_retI .int (by decide +kernel) rfl rfl h
theorem eX12_fault {d : Nat}  {w : q_Sm} {Q : s_Po} {X : s_Xo} (h : vX12_fault_0 d  w Q X) : s_Ev (d + 1) 0 mX12_fault w [.ref (79)] Q X := s_of (by decide +kernel) rfl (Nat.le_of_ble_eq_true rfl) (xX12_fault_0 h)
def vX12_clears_0 (d : Nat)  (w : q_Sm) (Q : s_Po) (X : s_Xo) : Prop := ∀ w_1 : q_Sm, w_1 = q_wI w 79 24 0 → ∀ w_2 : q_Sm, w_2 = q_wI w_1 79 25 0 → ∀ w_3 : q_Sm, w_3 = q_wI w_2 79 26 0 → ∀ w_4 : q_Sm, w_4 = q_wI w_3 79 27 0 → ∀ w_5 : q_Sm, w_5 = q_wI w_4 79 28 0 → s_Ex (d + 1) 0 mX12_clears 27 [some (.ref (79)), some (.int (0))] [] w_5 Q X
def vX12_clears_27 (d : Nat) (x1 : Int32) (w : q_Sm) (Q : s_Po) (X : s_Xo) : Prop := ((20 ≤ x1) → s_Ex (d + 1) 0 mX12_clears 48 [some (.ref (79)), some (.int (0))] [] w Q X) ∧ (¬ (20 ≤ x1) → (vp_in x1 20) ∧ ∀ w_6 : q_Sm, w_6 = q_wI w 85 (Int32.toNatClampNeg x1) 0 → s_Ex (d + 1) 0 mX12_clears 27 [some (.ref (79)), some (.int (x1 + 1))] [] w_6 Q X)
def vX12_clears_48 (d : Nat) (x1 : Int32) (w : q_Sm) (Q : s_Po) (X : s_Xo) : Prop := ((4 ≤ x1) → s_Ex (d + 1) 0 mX12_clears 68 [some (.ref (79)), some (.int (0))] [] w Q X) ∧ (¬ (4 ≤ x1) → (vp_in x1 4) ∧ ∀ w_8 : q_Sm, w_8 = q_wI w 86 (Int32.toNatClampNeg x1) 0 → s_Ex (d + 1) 0 mX12_clears 48 [some (.ref (79)), some (.int (x1 + 1))] [] w_8 Q X)
def vX12_clears_68 (d : Nat) (x1 : Int32) (w : q_Sm) (Q : s_Po) (X : s_Xo) : Prop := ((36 ≤ x1) → Q none w) ∧ (¬ (36 ≤ x1) → (vp_in x1 36) ∧ ∀ w_10 : q_Sm, w_10 = q_wI w 88 (Int32.toNatClampNeg x1) 0 → s_Ex (d + 1) 0 mX12_clears 68 [some (.ref (79)), some (.int (x1 + 1))] [] w_10 Q X)
theorem xX12_clears_0 {d : Nat}  {w : q_Sm} {Q : s_Po} {X : s_Xo} (h : vX12_clears_0 d  w Q X) : s_Ex (d + 1) 0 mX12_clears 0 [some (.ref (79)), none] [] w Q X := by
  unfold vX12_clears_0 at h
  replace h := h _ rfl
  replace h := h _ rfl
  replace h := h _ rfl
  replace h := h _ rfl
  replace h := h _ rfl
  refine s_blk [(.aload_n 0, 1, 0, 0), (.iconst 0, 1, 0, 0), (.putfield 178, 3, 12, 24), (.aload_n 0, 1, 0, 0), (.iconst 0, 1, 0, 0), (.putfield 181, 3, 12, 25), (.aload_n 0, 1, 0, 0), (.iconst 0, 1, 0, 0), (.putfield 184, 3, 12, 26), (.aload_n 0, 1, 0, 0), (.iconst 0, 1, 0, 0), (.putfield 187, 3, 12, 27), (.aload_n 0, 1, 0, 0), (.iconst 0, 1, 0, 0), (.putfield 190, 3, 12, 28), (.iconst 0, 1, 0, 0), (.istore_n 1, 1, 0, 0)] 27 [some (.ref (79)), some (.int (0))] [] (q_wI (q_wI (q_wI (q_wI (q_wI w 79 24 0) 79 25 0) 79 26 0) 79 27 0) 79 28 0) [q_id 116 12 79, q_id 116 12 79, q_id 116 12 79, q_id 116 12 79, q_id 116 12 79] (by decide +kernel) (by refine qt_aload_n (r := 79) rfl ?_; refine qt_iconst qc_0 ?_; refine qt_putI rfl ?_; refine qt_aload_n (r := 79) rfl ?_; refine qt_iconst qc_0 ?_; refine qt_putI rfl ?_; refine qt_aload_n (r := 79) rfl ?_; refine qt_iconst qc_0 ?_; refine qt_putI rfl ?_; refine qt_aload_n (r := 79) rfl ?_; refine qt_iconst qc_0 ?_; refine qt_putI rfl ?_; refine qt_aload_n (r := 79) rfl ?_; refine qt_iconst qc_0 ?_; refine qt_putI rfl ?_; refine qt_iconst qc_0 ?_; refine qt_istore_n (L' := [some (.ref (79)), some (.int (0))]) rfl ?_; exact qt_z rfl rfl rfl rfl rfl) ⟨(q_id_of rfl), (q_id_of rfl), (q_id_of rfl), (q_id_of rfl), (q_id_of rfl)⟩ ?_
  exact h
theorem xX12_clears_27 {d : Nat} {x1 : Int32} {w : q_Sm} {Q : s_Po} {X : s_Xo} (h : vX12_clears_27 d x1 w Q X) : s_Ex (d + 1) 0 mX12_clears 27 [some (.ref (79)), some (.int (x1))] [] w Q X := by
  unfold vX12_clears_27 at h
  refine s_blk [(.iload_n 1, 1, 0, 0), (.bipush 20, 2, 0, 0)] 30 [some (.ref (79)), some (.int (x1))] [.int (20), .int (x1)] w [] (by decide +kernel) (by refine qt_iload_n (x := x1) rfl ?_; refine qt_bipush qb_20 ?_; exact qt_z rfl rfl rfl rfl rfl) trivial ?_
  refine s_icmp (cd := .ge) (off := 16) 46 (by decide +kernel) (by decide) (fun hc => ?_) (fun hc => ?_)
  · replace h := h.1 hc
    refine s_blk [(.iconst 0, 1, 0, 0), (.istore_n 1, 1, 0, 0)] 48 [some (.ref (79)), some (.int (0))] [] w [] (by decide +kernel) (by refine qt_iconst qc_0 ?_; refine qt_istore_n (L' := [some (.ref (79)), some (.int (0))]) rfl ?_; exact qt_z rfl rfl rfl rfl rfl) trivial ?_
    exact h
  · replace h := h.2 hc
    obtain ⟨ho7, h⟩ := h
    replace h := h _ rfl
    refine s_blk [(.aload_n 0, 1, 0, 0), (.getfield 32, 3, 12, 13), (.iload_n 1, 1, 0, 0), (.iconst 0, 1, 0, 0), (.iastore, 1, 0, 0), (.iinc 1 1, 3, 0, 0), (.goto (-16), 3, 27, 0)] 27 [some (.ref (79)), some (.int (x1 + 1))] [] (q_wI w 85 (Int32.toNatClampNeg x1) 0) [q_id 116 12 79, q_id 116 14 85, vp_in x1 20] (by decide +kernel) (by refine qt_aload_n (r := 79) rfl ?_; refine qt_getR (r := 85) rfl rfl rfl ?_; refine qt_iload_n (x := x1) rfl ?_; refine qt_iconst qc_0 ?_; refine qt_iast ?_; refine qt_iinc (x := x1) (L' := [some (.ref (79)), some (.int (x1 + 1))]) rfl qc_1 rfl ?_; refine qt_goto ?_; exact qt_z rfl rfl rfl rfl rfl) ⟨(q_id_of rfl), (q_id_of rfl), ho7⟩ ?_
    exact h
theorem xX12_clears_48 {d : Nat} {x1 : Int32} {w : q_Sm} {Q : s_Po} {X : s_Xo} (h : vX12_clears_48 d x1 w Q X) : s_Ex (d + 1) 0 mX12_clears 48 [some (.ref (79)), some (.int (x1))] [] w Q X := by
  unfold vX12_clears_48 at h
  refine s_blk [(.iload_n 1, 1, 0, 0), (.iconst 4, 1, 0, 0)] 50 [some (.ref (79)), some (.int (x1))] [.int (4), .int (x1)] w [] (by decide +kernel) (by refine qt_iload_n (x := x1) rfl ?_; refine qt_iconst qc_4 ?_; exact qt_z rfl rfl rfl rfl rfl) trivial ?_
  refine s_icmp (cd := .ge) (off := 16) 66 (by decide +kernel) (by decide) (fun hc => ?_) (fun hc => ?_)
  · replace h := h.1 hc
    refine s_blk [(.iconst 0, 1, 0, 0), (.istore_n 1, 1, 0, 0)] 68 [some (.ref (79)), some (.int (0))] [] w [] (by decide +kernel) (by refine qt_iconst qc_0 ?_; refine qt_istore_n (L' := [some (.ref (79)), some (.int (0))]) rfl ?_; exact qt_z rfl rfl rfl rfl rfl) trivial ?_
    exact h
  · replace h := h.2 hc
    obtain ⟨ho9, h⟩ := h
    replace h := h _ rfl
    refine s_blk [(.aload_n 0, 1, 0, 0), (.getfield 35, 3, 12, 14), (.iload_n 1, 1, 0, 0), (.iconst 0, 1, 0, 0), (.iastore, 1, 0, 0), (.iinc 1 1, 3, 0, 0), (.goto (-15), 3, 48, 0)] 48 [some (.ref (79)), some (.int (x1 + 1))] [] (q_wI w 86 (Int32.toNatClampNeg x1) 0) [q_id 116 12 79, q_id 116 14 86, vp_in x1 4] (by decide +kernel) (by refine qt_aload_n (r := 79) rfl ?_; refine qt_getR (r := 86) rfl rfl rfl ?_; refine qt_iload_n (x := x1) rfl ?_; refine qt_iconst qc_0 ?_; refine qt_iast ?_; refine qt_iinc (x := x1) (L' := [some (.ref (79)), some (.int (x1 + 1))]) rfl qc_1 rfl ?_; refine qt_goto ?_; exact qt_z rfl rfl rfl rfl rfl) ⟨(q_id_of rfl), (q_id_of rfl), ho9⟩ ?_
    exact h
theorem xX12_clears_68 {d : Nat} {x1 : Int32} {w : q_Sm} {Q : s_Po} {X : s_Xo} (h : vX12_clears_68 d x1 w Q X) : s_Ex (d + 1) 0 mX12_clears 68 [some (.ref (79)), some (.int (x1))] [] w Q X := by
  unfold vX12_clears_68 at h
  refine s_blk [(.iload_n 1, 1, 0, 0), (.bipush 36, 2, 0, 0)] 71 [some (.ref (79)), some (.int (x1))] [.int (36), .int (x1)] w [] (by decide +kernel) (by refine qt_iload_n (x := x1) rfl ?_; refine qt_bipush qb_36 ?_; exact qt_z rfl rfl rfl rfl rfl) trivial ?_
  refine s_icmp (cd := .ge) (off := 16) 87 (by decide +kernel) (by decide) (fun hc => ?_) (fun hc => ?_)
  · replace h := h.1 hc
    exact s_retV (by decide +kernel) rfl h
  · replace h := h.2 hc
    obtain ⟨ho11, h⟩ := h
    replace h := h _ rfl
    refine s_blk [(.aload_n 0, 1, 0, 0), (.getfield 41, 3, 12, 16), (.iload_n 1, 1, 0, 0), (.iconst 0, 1, 0, 0), (.iastore, 1, 0, 0), (.iinc 1 1, 3, 0, 0), (.goto (-16), 3, 68, 0)] 68 [some (.ref (79)), some (.int (x1 + 1))] [] (q_wI w 88 (Int32.toNatClampNeg x1) 0) [q_id 116 12 79, q_id 116 14 88, vp_in x1 36] (by decide +kernel) (by refine qt_aload_n (r := 79) rfl ?_; refine qt_getR (r := 88) rfl rfl rfl ?_; refine qt_iload_n (x := x1) rfl ?_; refine qt_iconst qc_0 ?_; refine qt_iast ?_; refine qt_iinc (x := x1) (L' := [some (.ref (79)), some (.int (x1 + 1))]) rfl qc_1 rfl ?_; refine qt_goto ?_; exact qt_z rfl rfl rfl rfl rfl) ⟨(q_id_of rfl), (q_id_of rfl), ho11⟩ ?_
    exact h
theorem eX12_clears {d : Nat}  {w : q_Sm} {Q : s_Po} {X : s_Xo} (h : vX12_clears_0 d  w Q X) : s_Ev (d + 1) 0 mX12_clears w [.ref (79)] Q X := s_of (by decide +kernel) rfl (Nat.le_of_ble_eq_true rfl) (xX12_clears_0 h)
def vX12_copies_0 (d : Nat) (r1 : Nat) (r2 : Nat) (x3 : Int32) (w : q_Sm) (Q : s_Po) (X : s_Xo) : Prop := s_Ex (d + 1) 0 mX12_copies 3 [none, some (.ref (r1)), some (.ref (r2)), some (.int (x3)), some (.int (0))] [] w Q X
def vX12_copies_3 (d : Nat) (r1 : Nat) (r2 : Nat) (x3 : Int32) (x4 : Int32) (w : q_Sm) (Q : s_Po) (X : s_Xo) : Prop := ((x3 ≤ x4) → Q none w) ∧ (¬ (x3 ≤ x4) → (q_id 116 14 r1) ∧ (vp_in x4 (q_sh r1).2) ∧ (q_id 116 14 r2) ∧ (vp_in x4 (q_sh r2).2) ∧ ∀ w_1 : q_Sm, w_1 = q_wI w r2 (Int32.toNatClampNeg x4) (w.1 r1 (Int32.toNatClampNeg x4)) → s_Ex (d + 1) 0 mX12_copies 3 [none, some (.ref (r1)), some (.ref (r2)), some (.int (x3)), some (.int (x4 + 1))] [] w_1 Q X)
theorem xX12_copies_0 {d : Nat} {r1 : Nat} {r2 : Nat} {x3 : Int32} {w : q_Sm} {Q : s_Po} {X : s_Xo} (h : vX12_copies_0 d r1 r2 x3 w Q X) : s_Ex (d + 1) 0 mX12_copies 0 [some (.ref (79)), some (.ref (r1)), some (.ref (r2)), some (.int (x3)), none] [] w Q X := by
  unfold vX12_copies_0 at h
  refine s_blk [(.iconst 0, 1, 0, 0), (.istore 4, 2, 0, 0), (.nop, 0, 0, 0)] 3 [none, some (.ref (r1)), some (.ref (r2)), some (.int (x3)), some (.int (0))] [] w [] (by decide +kernel) (by refine qt_iconst qc_0 ?_; refine qt_istore (L' := [some (.ref (79)), some (.ref (r1)), some (.ref (r2)), some (.int (x3)), some (.int (0))]) rfl ?_; refine qt_nop (L' := [none, some (.ref (r1)), some (.ref (r2)), some (.int (x3)), some (.int (0))]) rfl ?_; exact qt_z rfl rfl rfl rfl rfl) trivial ?_
  exact h
theorem xX12_copies_3 {d : Nat} {r1 : Nat} {r2 : Nat} {x3 : Int32} {x4 : Int32} {w : q_Sm} {Q : s_Po} {X : s_Xo} (h : vX12_copies_3 d r1 r2 x3 x4 w Q X) : s_Ex (d + 1) 0 mX12_copies 3 [none, some (.ref (r1)), some (.ref (r2)), some (.int (x3)), some (.int (x4))] [] w Q X := by
  unfold vX12_copies_3 at h
  refine s_blk [(.iload 4, 2, 0, 0), (.iload_n 3, 1, 0, 0)] 6 [none, some (.ref (r1)), some (.ref (r2)), some (.int (x3)), some (.int (x4))] [.int (x3), .int (x4)] w [] (by decide +kernel) (by refine qt_iload (x := x4) rfl ?_; refine qt_iload_n (x := x3) rfl ?_; exact qt_z rfl rfl rfl rfl rfl) trivial ?_
  refine s_icmp (cd := .ge) (off := 17) 23 (by decide +kernel) (by decide) (fun hc => ?_) (fun hc => ?_)
  · replace h := h.1 hc
    exact s_retV (by decide +kernel) rfl h
  · replace h := h.2 hc
    obtain ⟨ho2, h⟩ := h
    obtain ⟨ho3, h⟩ := h
    obtain ⟨ho4, h⟩ := h
    obtain ⟨ho5, h⟩ := h
    replace h := h _ rfl
    refine s_blk [(.aload_n 2, 1, 0, 0), (.iload 4, 2, 0, 0), (.aload_n 1, 1, 0, 0), (.iload 4, 2, 0, 0), (.iaload, 1, 0, 0), (.iastore, 1, 0, 0), (.iinc 4 1, 3, 0, 0), (.goto (-17), 3, 3, 0)] 3 [none, some (.ref (r1)), some (.ref (r2)), some (.int (x3)), some (.int (x4 + 1))] [] (q_wI w r2 (Int32.toNatClampNeg x4) (w.1 r1 (Int32.toNatClampNeg x4))) [q_id 116 14 r1, vp_in x4 (q_sh r1).2, q_id 116 14 r2, vp_in x4 (q_sh r2).2] (by decide +kernel) (by refine qt_aload_n (r := r2) rfl ?_; refine qt_iload (x := x4) rfl ?_; refine qt_aload_n (r := r1) rfl ?_; refine qt_iload (x := x4) rfl ?_; refine qt_iald ?_; refine qt_iast ?_; refine qt_iinc (x := x4) (L' := [none, some (.ref (r1)), some (.ref (r2)), some (.int (x3)), some (.int (x4 + 1))]) rfl qc_1 rfl ?_; refine qt_goto ?_; exact qt_z rfl rfl rfl rfl rfl) ⟨ho2, ho3, ho4, ho5⟩ ?_
    exact h
theorem eX12_copies {d : Nat} {r1 : Nat} {r2 : Nat} {x3 : Int32} {w : q_Sm} {Q : s_Po} {X : s_Xo} (h : vX12_copies_0 d r1 r2 x3 w Q X) : s_Ev (d + 1) 0 mX12_copies w [.ref (79), .ref (r1), .ref (r2), .int (x3)] Q X := s_of (by decide +kernel) rfl (Nat.le_of_ble_eq_true rfl) (xX12_copies_0 h)
