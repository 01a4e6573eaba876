def vX0_findRests_0 (d : Nat) (x1 : Int32) (x2 : Int32) (w : q_Sm) (Q : s_Po) (X : s_Xo) : Prop := ∀ w_1 : q_Sm, w_1 = q_wI w 77 1 0 → s_Ex (d + 1) 0 mX0_findRests 7 [some (.ref (77)), some (.int (x1)), some (.int (x2)), some (.int (0)), none] [] w_1 Q X
def vX0_findRests_7 (d : Nat) (x1 : Int32) (x2 : Int32) (x3 : Int32) (w : q_Sm) (Q : s_Po) (X : s_Xo) : Prop := ((x2 < x3) → s_Ex (d + 1) 0 mX0_findRests 32 [some (.ref (77)), some (.int (x1)), some (.int (x2)), some (.int (0)), none] [] w Q X) ∧ (¬ (x2 < x3) → s_EvI d 0 mX0_bestGain w [.int (x1), .int (x2), .int (x3)] (fun v2 u3 => (vp_in x3 21) ∧ ∀ w_4 : q_Sm, w_4 = q_wI u3 78 (Int32.toNatClampNeg x3) v2 → s_Ex (d + 1) 0 mX0_findRests 7 [some (.ref (77)), some (.int (x1)), some (.int (x2)), some (.int (x3 + 1)), none] [] w_4 Q X) X)
def vX0_findRests_32 (d : Nat) (x1 : Int32) (x2 : Int32) (x3 : Int32) (w : q_Sm) (Q : s_Po) (X : s_Xo) : Prop := ((x2 < x3) → Q none w) ∧ (¬ (x2 < x3) → s_Ex (d + 1) 0 mX0_findRests 40 [some (.ref (77)), some (.int (x1)), some (.int (x2)), some (.int (x3)), some (.int (0))] [] w Q X)
def vX0_findRests_40 (d : Nat) (x1 : Int32) (x2 : Int32) (x3 : Int32) (x4 : Int32) (w : q_Sm) (Q : s_Po) (X : s_Xo) : Prop := ((x2 < x4) → s_Ex (d + 1) 0 mX0_findRests 32 [some (.ref (77)), some (.int (x1)), some (.int (x2)), some (.int (x3 + 1)), none] [] w Q X) ∧ (¬ (x2 < x4) → s_EvI d 0 mX0_gain w [.int (x1), .int (x3), .int (x4)] (fun v6 u7 => (vp_in x4 21) ∧ ((¬ v6 = (u7.1 78 (Int32.toNatClampNeg x4))) → s_Ex (d + 1) 0 mX0_findRests 40 [some (.ref (77)), some (.int (x1)), some (.int (x2)), some (.int (x3)), some (.int (x4 + 1))] [] u7 Q X) ∧ (¬ (¬ v6 = (u7.1 78 (Int32.toNatClampNeg x4))) → s_EvI d 0 mX0_gain u7 [.int (x1), .int (x4), .int (x3)] (fun v8 u9 => (vp_in x3 21) ∧ ((¬ v8 = (u9.1 78 (Int32.toNatClampNeg x3))) → s_Ex (d + 1) 0 mX0_findRests 40 [some (.ref (77)), some (.int (x1)), some (.int (x2)), some (.int (x3)), some (.int (x4 + 1))] [] u9 Q X) ∧ (¬ (¬ v8 = (u9.1 78 (Int32.toNatClampNeg x3))) → s_EvV d 0 mX0_addRest u9 [.ref (77), .int (x3), .int (x4)] (fun u11 => s_Ex (d + 1) 0 mX0_findRests 40 [some (.ref (77)), some (.int (x1)), some (.int (x2)), some (.int (x3)), some (.int (x4 + 1))] [] u11 Q X) X)) X)) X)
theorem xX0_findRests_0 {d : Nat} {x1 : Int32} {x2 : Int32} {w : q_Sm} {Q : s_Po} {X : s_Xo} (h : vX0_findRests_0 d x1 x2 w Q X) : s_Ex (d + 1) 0 mX0_findRests 0 [some (.ref (77)), some (.int (x1)), some (.int (x2)), none, none] [] w Q X := by
  unfold vX0_findRests_0 at h
  replace h := h _ rfl
  refine s_blk [(.aload_n 0, 1, 0, 0), (.iconst 0, 1, 0, 0), (.putfield 13, 3, 0, 1), (.iconst 0, 1, 0, 0), (.istore_n 3, 1, 0, 0)] 7 [some (.ref (77)), some (.int (x1)), some (.int (x2)), some (.int (0)), none] [] (q_wI w 77 1 0) [q_id 116 0 77] (by decide +kernel) (by refine qt_aload_n (r := 77) rfl ?_; refine qt_iconst qc_0 ?_; refine qt_putI rfl ?_; refine qt_iconst qc_0 ?_; refine qt_istore_n (L' := [some (.ref (77)), some (.int (x1)), some (.int (x2)), some (.int (0)), none]) rfl ?_; exact qt_z rfl rfl rfl rfl rfl) (q_id_of rfl) ?_
  exact h
theorem xX0_findRests_7 {d : Nat} {x1 : Int32} {x2 : Int32} {x3 : Int32} {w : q_Sm} {Q : s_Po} {X : s_Xo} (h : vX0_findRests_7 d x1 x2 x3 w Q X) : s_Ex (d + 1) 0 mX0_findRests 7 [some (.ref (77)), some (.int (x1)), some (.int (x2)), some (.int (x3)), none] [] w Q X := by
  unfold vX0_findRests_7 at h
  refine s_blk [(.iload_n 3, 1, 0, 0), (.iload_n 2, 1, 0, 0)] 9 [some (.ref (77)), some (.int (x1)), some (.int (x2)), some (.int (x3)), none] [.int (x2), .int (x3)] w [] (by decide +kernel) (by refine qt_iload_n (x := x3) rfl ?_; refine qt_iload_n (x := x2) rfl ?_; exact qt_z rfl rfl rfl rfl rfl) trivial ?_
  refine s_icmp (cd := .gt) (off := 21) 30 (by decide +kernel) (by decide) (fun hc => ?_) (fun hc => ?_)
  · replace h := h.1 hc
    refine s_blk [(.iconst 0, 1, 0, 0), (.istore_n 3, 1, 0, 0)] 32 [some (.ref (77)), some (.int (x1)), some (.int (x2)), some (.int (0)), none] [] w [] (by decide +kernel) (by refine qt_iconst qc_0 ?_; refine qt_istore_n (L' := [some (.ref (77)), some (.int (x1)), some (.int (x2)), some (.int (0)), none]) rfl ?_; exact qt_z rfl rfl rfl rfl rfl) trivial ?_
    exact h
  · replace h := h.2 hc
    refine s_blk [(.aload_n 0, 1, 0, 0), (.getfield 9, 3, 0, 0), (.iload_n 3, 1, 0, 0), (.iload_n 1, 1, 0, 0), (.iload_n 2, 1, 0, 0), (.iload_n 3, 1, 0, 0)] 20 [some (.ref (77)), some (.int (x1)), some (.int (x2)), some (.int (x3)), none] [.int (x3), .int (x2), .int (x1), .int (x3), .ref (78)] w [q_id 116 0 77] (by decide +kernel) (by refine qt_aload_n (r := 77) rfl ?_; refine qt_getR (r := 78) rfl rfl rfl ?_; refine qt_iload_n (x := x3) rfl ?_; refine qt_iload_n (x := x1) rfl ?_; refine qt_iload_n (x := x2) rfl ?_; refine qt_iload_n (x := x3) rfl ?_; exact qt_z rfl rfl rfl rfl rfl) (q_id_of rfl) ?_
    refine s_callS (a := 0) (a' := 0) (As := [.int (x1), .int (x2), .int (x3)]) (st := [.int (x3), .ref (78)]) kX0_bestGain l_0_17 (by decide +kernel) rfl (Nat.le_of_ble_eq_true rfl) (s_mono h (s_I_of (fun v2 u3 h => ?_)) (fun _ _ h9 => h9))
    show s_Ex (d + 1) 0 mX0_findRests 23 [some (.ref (77)), some (.int (x1)), some (.int (x2)), some (.int (x3)), none] [.int (v2), .int (x3), .ref (78)] u3 Q X
    obtain ⟨ho5, h⟩ := h
    replace h := h _ rfl
    refine s_blk [(.iastore, 1, 0, 0), (.iinc 3 1, 3, 0, 0), (.goto (-20), 3, 7, 0)] 7 [some (.ref (77)), some (.int (x1)), some (.int (x2)), some (.int (x3 + 1)), none] [] (q_wI u3 78 (Int32.toNatClampNeg x3) v2) [q_id 116 14 78, vp_in x3 21] (by decide +kernel) (by refine qt_iast ?_; refine qt_iinc (x := x3) (L' := [some (.ref (77)), some (.int (x1)), some (.int (x2)), some (.int (x3 + 1)), none]) rfl qc_1 rfl ?_; refine qt_goto ?_; exact qt_z rfl rfl rfl rfl rfl) ⟨(q_id_of rfl), ho5⟩ ?_
    exact h
theorem xX0_findRests_32 {d : Nat} {x1 : Int32} {x2 : Int32} {x3 : Int32} {w : q_Sm} {Q : s_Po} {X : s_Xo} (h : vX0_findRests_32 d x1 x2 x3 w Q X) : s_Ex (d + 1) 0 mX0_findRests 32 [some (.ref (77)), some (.int (x1)), some (.int (x2)), some (.int (x3)), none] [] w Q X := by
  unfold vX0_findRests_32 at h
  refine s_blk [(.iload_n 3, 1, 0, 0), (.iload_n 2, 1, 0, 0)] 34 [some (.ref (77)), some (.int (x1)), some (.int (x2)), some (.int (x3)), none] [.int (x2), .int (x3)] w [] (by decide +kernel) (by refine qt_iload_n (x := x3) rfl ?_; refine qt_iload_n (x := x2) rfl ?_; exact qt_z rfl rfl rfl rfl rfl) trivial ?_
  refine s_icmp (cd := .gt) (off := 64) 98 (by decide +kernel) (by decide) (fun hc => ?_) (fun hc => ?_)
  · replace h := h.1 hc
    exact s_retV (by decide +kernel) rfl h
  · replace h := h.2 hc
    refine s_blk [(.iconst 0, 1, 0, 0), (.istore 4, 2, 0, 0)] 40 [some (.ref (77)), some (.int (x1)), some (.int (x2)), some (.int (x3)), some (.int (0))] [] w [] (by decide +kernel) (by refine qt_iconst qc_0 ?_; refine qt_istore (L' := [some (.ref (77)), some (.int (x1)), some (.int (x2)), some (.int (x3)), some (.int (0))]) rfl ?_; exact qt_z rfl rfl rfl rfl rfl) trivial ?_
    exact h
theorem xX0_findRests_40 {d : Nat} {x1 : Int32} {x2 : Int32} {x3 : Int32} {x4 : Int32} {w : q_Sm} {Q : s_Po} {X : s_Xo} (h : vX0_findRests_40 d x1 x2 x3 x4 w Q X) : s_Ex (d + 1) 0 mX0_findRests 40 [some (.ref (77)), some (.int (x1)), some (.int (x2)), some (.int (x3)), some (.int (x4))] [] w Q X := by
  unfold vX0_findRests_40 at h
  refine s_blk [(.iload 4, 2, 0, 0), (.iload_n 2, 1, 0, 0)] 43 [some (.ref (77)), some (.int (x1)), some (.int (x2)), some (.int (x3)), some (.int (x4))] [.int (x2), .int (x4)] w [] (by decide +kernel) (by refine qt_iload (x := x4) rfl ?_; refine qt_iload_n (x := x2) rfl ?_; exact qt_z rfl rfl rfl rfl rfl) trivial ?_
  refine s_icmp (cd := .gt) (off := 49) 92 (by decide +kernel) (by decide) (fun hc => ?_) (fun hc => ?_)
  · replace h := h.1 hc
    refine s_blk [(.iinc 3 1, 3, 0, 0), (.goto (-63), 3, 32, 0), (.nop, 0, 4, 0)] 32 [some (.ref (77)), some (.int (x1)), some (.int (x2)), some (.int (x3 + 1)), none] [] w [] (by decide +kernel) (by refine qt_iinc (x := x3) (L' := [some (.ref (77)), some (.int (x1)), some (.int (x2)), some (.int (x3 + 1)), some (.int (x4))]) rfl qc_1 rfl ?_; refine qt_goto ?_; refine qt_nop (L' := [some (.ref (77)), some (.int (x1)), some (.int (x2)), some (.int (x3 + 1)), none]) rfl ?_; exact qt_z rfl rfl rfl rfl rfl) trivial ?_
    exact h
  · replace h := h.2 hc
    refine s_blk [(.iload_n 1, 1, 0, 0), (.iload_n 3, 1, 0, 0), (.iload 4, 2, 0, 0)] 50 [some (.ref (77)), some (.int (x1)), some (.int (x2)), some (.int (x3)), some (.int (x4))] [.int (x4), .int (x3), .int (x1)] w [] (by decide +kernel) (by refine qt_iload_n (x := x1) rfl ?_; refine qt_iload_n (x := x3) rfl ?_; refine qt_iload (x := x4) rfl ?_; exact qt_z rfl rfl rfl rfl rfl) trivial ?_
    refine s_callS (a := 0) (a' := 0) (As := [.int (x1), .int (x3), .int (x4)]) (st := []) kX0_gain l_0_21 (by decide +kernel) rfl (Nat.le_of_ble_eq_true rfl) (s_mono h (s_I_of (fun v6 u7 h => ?_)) (fun _ _ h9 => h9))
    show s_Ex (d + 1) 0 mX0_findRests 53 [some (.ref (77)), some (.int (x1)), some (.int (x2)), some (.int (x3)), some (.int (x4))] [.int (v6)] u7 Q X
    obtain ⟨ho13, h⟩ := h
    refine s_blk [(.aload_n 0, 1, 0, 0), (.getfield 9, 3, 0, 0), (.iload 4, 2, 0, 0), (.iaload, 1, 0, 0)] 60 [some (.ref (77)), some (.int (x1)), some (.int (x2)), some (.int (x3)), some (.int (x4))] [.int (u7.1 78 (Int32.toNatClampNeg x4)), .int (v6)] u7 [q_id 116 0 77, q_id 116 14 78, vp_in x4 21] (by decide +kernel) (by refine qt_aload_n (r := 77) rfl ?_; refine qt_getR (r := 78) rfl rfl rfl ?_; refine qt_iload (x := x4) rfl ?_; refine qt_iald ?_; exact qt_z rfl rfl rfl rfl rfl) ⟨(q_id_of rfl), (q_id_of rfl), ho13⟩ ?_
    refine s_icmp (cd := .ne) (off := 26) 86 (by decide +kernel) (by decide) (fun hc => ?_) (fun hc => ?_)
    · replace h := h.1 hc
      refine s_blk [(.iinc 4 1, 3, 0, 0), (.goto (-49), 3, 40, 0)] 40 [some (.ref (77)), some (.int (x1)), some (.int (x2)), some (.int (x3)), some (.int (x4 + 1))] [] u7 [] (by decide +kernel) (by refine qt_iinc (x := x4) (L' := [some (.ref (77)), some (.int (x1)), some (.int (x2)), some (.int (x3)), some (.int (x4 + 1))]) rfl qc_1 rfl ?_; refine qt_goto ?_; exact qt_z rfl rfl rfl rfl rfl) trivial ?_
      exact h
    · replace h := h.2 hc
      refine s_blk [(.iload_n 1, 1, 0, 0), (.iload 4, 2, 0, 0), (.iload_n 3, 1, 0, 0)] 67 [some (.ref (77)), some (.int (x1)), some (.int (x2)), some (.int (x3)), some (.int (x4))] [.int (x3), .int (x4), .int (x1)] u7 [] (by decide +kernel) (by refine qt_iload_n (x := x1) rfl ?_; refine qt_iload (x := x4) rfl ?_; refine qt_iload_n (x := x3) rfl ?_; exact qt_z rfl rfl rfl rfl rfl) trivial ?_
      refine s_callS (a := 0) (a' := 0) (As := [.int (x1), .int (x4), .int (x3)]) (st := []) kX0_gain l_0_21 (by decide +kernel) rfl (Nat.le_of_ble_eq_true rfl) (s_mono h (s_I_of (fun v8 u9 h => ?_)) (fun _ _ h9 => h9))
      show s_Ex (d + 1) 0 mX0_findRests 70 [some (.ref (77)), some (.int (x1)), some (.int (x2)), some (.int (x3)), some (.int (x4))] [.int (v8)] u9 Q X
      obtain ⟨ho12, h⟩ := h
      refine s_blk [(.aload_n 0, 1, 0, 0), (.getfield 9, 3, 0, 0), (.iload_n 3, 1, 0, 0), (.iaload, 1, 0, 0)] 76 [some (.ref (77)), some (.int (x1)), some (.int (x2)), some (.int (x3)), some (.int (x4))] [.int (u9.1 78 (Int32.toNatClampNeg x3)), .int (v8)] u9 [q_id 116 0 77, q_id 116 14 78, vp_in x3 21] (by decide +kernel) (by refine qt_aload_n (r := 77) rfl ?_; refine qt_getR (r := 78) rfl rfl rfl ?_; refine qt_iload_n (x := x3) rfl ?_; refine qt_iald ?_; exact qt_z rfl rfl rfl rfl rfl) ⟨(q_id_of rfl), (q_id_of rfl), ho12⟩ ?_
      refine s_icmp (cd := .ne) (off := 10) 86 (by decide +kernel) (by decide) (fun hc => ?_) (fun hc => ?_)
      · replace h := h.1 hc
        refine s_blk [(.iinc 4 1, 3, 0, 0), (.goto (-49), 3, 40, 0)] 40 [some (.ref (77)), some (.int (x1)), some (.int (x2)), some (.int (x3)), some (.int (x4 + 1))] [] u9 [] (by decide +kernel) (by refine qt_iinc (x := x4) (L' := [some (.ref (77)), some (.int (x1)), some (.int (x2)), some (.int (x3)), some (.int (x4 + 1))]) rfl qc_1 rfl ?_; refine qt_goto ?_; exact qt_z rfl rfl rfl rfl rfl) trivial ?_
        exact h
      · replace h := h.2 hc
        refine s_blk [(.aload_n 0, 1, 0, 0), (.iload_n 3, 1, 0, 0), (.iload 4, 2, 0, 0)] 83 [some (.ref (77)), some (.int (x1)), some (.int (x2)), some (.int (x3)), some (.int (x4))] [.int (x4), .int (x3), .ref (77)] u9 [] (by decide +kernel) (by refine qt_aload_n (r := 77) rfl ?_; refine qt_iload_n (x := x3) rfl ?_; refine qt_iload (x := x4) rfl ?_; exact qt_z rfl rfl rfl rfl rfl) trivial ?_
        refine s_callV (a := 0) (a' := 0) (As := [.int (x3), .int (x4)]) (id := 77) (st := []) kX0_addRest l_0_24 (by decide +kernel) (q_id_of rfl) rfl (Nat.le_of_ble_eq_true rfl) (s_mono h (s_V_of (fun u11 h => ?_)) (fun _ _ h9 => h9))
        show s_Ex (d + 1) 0 mX0_findRests 86 [some (.ref (77)), some (.int (x1)), some (.int (x2)), some (.int (x3)), some (.int (x4))] [] u11 Q X
        refine s_blk [(.iinc 4 1, 3, 0, 0), (.goto (-49), 3, 40, 0)] 40 [some (.ref (77)), some (.int (x1)), some (.int (x2)), some (.int (x3)), some (.int (x4 + 1))] [] u11 [] (by decide +kernel) (by refine qt_iinc (x := x4) (L' := [some (.ref (77)), some (.int (x1)), some (.int (x2)), some (.int (x3)), some (.int (x4 + 1))]) rfl qc_1 rfl ?_; refine qt_goto ?_; exact qt_z rfl rfl rfl rfl rfl) trivial ?_
        exact h
theorem eX0_findRests {d : Nat} {x1 : Int32} {x2 : Int32} {w : q_Sm} {Q : s_Po} {X : s_Xo} (h : vX0_findRests_0 d x1 x2 w Q X) : s_Ev (d + 1) 0 mX0_findRests w [.ref (77), .int (x1), .int (x2)] Q X := s_of (by decide +kernel) rfl (Nat.le_of_ble_eq_true rfl) (xX0_findRests_0 h)
def vX0_bestGain_0 (d : Nat) (x0 : Int32) (x1 : Int32) (x2 : Int32) (w : q_Sm) (Q : s_Po) (X : s_Xo) : Prop := s_EvI d 0 mX0_gain w [.int (x0), .int (0), .int (x2)] (fun v1 u2 => s_Ex (d + 1) 0 mX0_bestGain 10 [some (.int (x0)), some (.int (x1)), some (.int (x2)), some (.int (v1)), some (.int (1))] [] u2 Q X) X
def vX0_bestGain_10 (d : Nat) (x0 : Int32) (x1 : Int32) (x2 : Int32) (x3 : Int32) (x4 : Int32) (w : q_Sm) (Q : s_Po) (X : s_Xo) : Prop := ((x1 < x4) → Q (some (.int (x3))) w) ∧ (¬ (x1 < x4) → s_EvI d 0 mX0_gain w [.int (x0), .int (x4), .int (x2)] (fun v3 u4 => s_EvI d 0 mK_max u4 [.int (x3), .int (v3)] (fun v5 u6 => s_Ex (d + 1) 0 mX0_bestGain 10 [some (.int (x0)), some (.int (x1)), some (.int (x2)), some (.int (v5)), some (.int (x4 + 1))] [] u6 Q X) X) X)
theorem xX0_bestGain_0 {d : Nat} {x0 : Int32} {x1 : Int32} {x2 : Int32} {w : q_Sm} {Q : s_Po} {X : s_Xo} (h : vX0_bestGain_0 d x0 x1 x2 w Q X) : s_Ex (d + 1) 0 mX0_bestGain 0 [some (.int (x0)), some (.int (x1)), some (.int (x2)), none, none] [] w Q X := by
  unfold vX0_bestGain_0 at h
  refine s_blk [(.iload_n 0, 1, 0, 0), (.iconst 0, 1, 0, 0), (.iload_n 2, 1, 0, 0)] 3 [some (.int (x0)), some (.int (x1)), some (.int (x2)), none, none] [.int (x2), .int (0), .int (x0)] w [] (by decide +kernel) (by refine qt_iload_n (x := x0) rfl ?_; refine qt_iconst qc_0 ?_; refine qt_iload_n (x := x2) rfl ?_; exact qt_z rfl rfl rfl rfl rfl) trivial ?_
  refine s_callS (a := 0) (a' := 0) (As := [.int (x0), .int (0), .int (x2)]) (st := []) kX0_gain l_0_21 (by decide +kernel) rfl (Nat.le_of_ble_eq_true rfl) (s_mono h (s_I_of (fun v1 u2 h => ?_)) (fun _ _ h9 => h9))
  show s_Ex (d + 1) 0 mX0_bestGain 6 [some (.int (x0)), some (.int (x1)), some (.int (x2)), none, none] [.int (v1)] u2 Q X
  refine s_blk [(.istore_n 3, 1, 0, 0), (.iconst 1, 1, 0, 0), (.istore 4, 2, 0, 0)] 10 [some (.int (x0)), some (.int (x1)), some (.int (x2)), some (.int (v1)), some (.int (1))] [] u2 [] (by decide +kernel) (by refine qt_istore_n (L' := [some (.int (x0)), some (.int (x1)), some (.int (x2)), some (.int (v1)), none]) rfl ?_; refine qt_iconst qc_1 ?_; refine qt_istore (L' := [some (.int (x0)), some (.int (x1)), some (.int (x2)), some (.int (v1)), some (.int (1))]) rfl ?_; exact qt_z rfl rfl rfl rfl rfl) trivial ?_
  exact h
theorem xX0_bestGain_10 {d : Nat} {x0 : Int32} {x1 : Int32} {x2 : Int32} {x3 : Int32} {x4 : Int32} {w : q_Sm} {Q : s_Po} {X : s_Xo} (h : vX0_bestGain_10 d x0 x1 x2 x3 x4 w Q X) : s_Ex (d + 1) 0 mX0_bestGain 10 [some (.int (x0)), some (.int (x1)), some (.int (x2)), some (.int (x3)), some (.int (x4))] [] w Q X := by
  unfold vX0_bestGain_10 at h
  refine s_blk [(.iload 4, 2, 0, 0), (.iload_n 1, 1, 0, 0)] 13 [some (.int (x0)), some (.int (x1)), some (.int (x2)), some (.int (x3)), some (.int (x4))] [.int (x1), .int (x4)] w [] (by decide +kernel) (by refine qt_iload (x := x4) rfl ?_; refine qt_iload_n (x := x1) rfl ?_; exact qt_z rfl rfl rfl rfl rfl) trivial ?_
  refine s_icmp (cd := .gt) (off := 21) 34 (by decide +kernel) (by decide) (fun hc => ?_) (fun hc => ?_)
  · replace h := h.1 hc
    refine s_blk [(.iload_n 3, 1, 0, 0)] 35 [some (.int (x0)), some (.int (x1)), some (.int (x2)), some (.int (x3)), some (.int (x4))] [.int (x3)] w [] (by decide +kernel) (by refine qt_iload_n (x := x3) rfl ?_; exact qt_z rfl rfl rfl rfl rfl) trivial ?_
    exact s_retI .int (by decide +kernel) rfl rfl h
  · replace h := h.2 hc
    refine s_blk [(.iload_n 3, 1, 0, 0), (.iload_n 0, 1, 0, 0), (.iload 4, 2, 0, 0), (.iload_n 2, 1, 0, 0)] 21 [some (.int (x0)), some (.int (x1)), some (.int (x2)), some (.int (x3)), some (.int (x4))] [.int (x2), .int (x4), .int (x0), .int (x3)] w [] (by decide +kernel) (by refine qt_iload_n (x := x3) rfl ?_; refine qt_iload_n (x := x0) rfl ?_; refine qt_iload (x := x4) rfl ?_; refine qt_iload_n (x := x2) rfl ?_; exact qt_z rfl rfl rfl rfl rfl) trivial ?_
    refine s_callS (a := 0) (a' := 0) (As := [.int (x0), .int (x4), .int (x2)]) (st := [.int (x3)]) kX0_gain l_0_21 (by decide +kernel) rfl (Nat.le_of_ble_eq_true rfl) (s_mono h (s_I_of (fun v3 u4 h => ?_)) (fun _ _ h9 => h9))
    show s_Ex (d + 1) 0 mX0_bestGain 24 [some (.int (x0)), some (.int (x1)), some (.int (x2)), some (.int (x3)), some (.int (x4))] [.int (v3), .int (x3)] u4 Q X
    refine s_callS (a := 0) (a' := 0) (As := [.int (x3), .int (v3)]) (st := []) kK_max l_0_28 (by decide +kernel) rfl (Nat.le_of_ble_eq_true rfl) (s_mono h (s_I_of (fun v5 u6 h => ?_)) (fun _ _ h9 => h9))
    show s_Ex (d + 1) 0 mX0_bestGain 27 [some (.int (x0)), some (.int (x1)), some (.int (x2)), some (.int (x3)), some (.int (x4))] [.int (v5)] u6 Q X
    refine s_blk [(.istore_n 3, 1, 0, 0), (.iinc 4 1, 3, 0, 0), (.goto (-21), 3, 10, 0)] 10 [some (.int (x0)), some (.int (x1)), some (.int (x2)), some (.int (v5)), some (.int (x4 + 1))] [] u6 [] (by decide +kernel) (by refine qt_istore_n (L' := [some (.int (x0)), some (.int (x1)), some (.int (x2)), some (.int (v5)), some (.int (x4))]) rfl ?_; refine qt_iinc (x := x4) (L' := [some (.int (x0)), some (.int (x1)), some (.int (x2)), some (.int (v5)), some (.int (x4 + 1))]) rfl qc_1 rfl ?_; refine qt_goto ?_; exact qt_z rfl rfl rfl rfl rfl) trivial ?_
    exact h
theorem eX0_bestGain {d : Nat} {x0 : Int32} {x1 : Int32} {x2 : Int32} {w : q_Sm} {Q : s_Po} {X : s_Xo} (h : vX0_bestGain_0 d x0 x1 x2 w Q X) : s_Ev (d + 1) 0 mX0_bestGain w [.int (x0), .int (x1), .int (x2)] Q X := s_of (by decide +kernel) rfl (Nat.le_of_ble_eq_true rfl) (xX0_bestGain_0 h)
def vX0_addRest_0 (d : Nat) (x1 : Int32) (x2 : Int32) (w : q_Sm) (Q : s_Po) (X : s_Xo) : Prop := ((¬ (w.1 77 1) = 0) → ∀ w_1 : q_Sm, w_1 = q_wI w 77 1 ((w.1 77 1) + 1) → Q none w_1) ∧ (¬ (¬ (w.1 77 1) = 0) → ∀ w_2 : q_Sm, w_2 = q_wI w 77 2 x1 → ∀ w_3 : q_Sm, w_3 = q_wI w_2 77 3 x2 → ∀ w_4 : q_Sm, w_4 = q_wI w_3 77 1 ((w_3.1 77 1) + 1) → Q none w_4)
theorem xX0_addRest_0 {d : Nat} {x1 : Int32} {x2 : Int32} {w : q_Sm} {Q : s_Po} {X : s_Xo} (h : vX0_addRest_0 d x1 x2 w Q X) : s_Ex (d + 1) 0 mX0_addRest 0 [some (.ref (77)), some (.int (x1)), some (.int (x2))] [] w Q X := by
  unfold vX0_addRest_0 at h
  refine s_blk [(.aload_n 0, 1, 0, 0), (.getfield 13, 3, 0, 1)] 4 [some (.ref (77)), some (.int (x1)), some (.int (x2))] [.int (w.1 77 1)] w [q_id 116 0 77] (by decide +kernel) (by refine qt_aload_n (r := 77) rfl ?_; refine qt_getI rfl rfl ?_; exact qt_z rfl rfl rfl rfl rfl) (q_id_of rfl) ?_
  refine s_if (cd := .ne) (off := 13) 17 (by decide +kernel) (by decide) (fun hc => ?_) (fun hc => ?_)
  · replace h := h.1 hc
    replace h := h _ rfl
    refine s_blk [(.aload_n 0, 1, 0, 0), (.dup, 1, 0, 0), (.getfield 13, 3, 0, 1), (.iconst 1, 1, 0, 0), (.iadd, 1, 0, 0), (.putfield 13, 3, 0, 1)] 27 [some (.ref (77)), some (.int (x1)), some (.int (x2))] [] (q_wI w 77 1 ((w.1 77 1) + 1)) [q_id 116 0 77, q_id 116 0 77] (by decide +kernel) (by refine qt_aload_n (r := 77) rfl ?_; refine qt_dupR ?_; refine qt_getI rfl rfl ?_; refine qt_iconst qc_1 ?_; refine qt_iadd ?_; refine qt_putI rfl ?_; exact qt_z rfl rfl rfl rfl rfl) ⟨(q_id_of rfl), (q_id_of rfl)⟩ ?_
    exact s_retV (by decide +kernel) rfl h
  · replace h := h.2 hc
    replace h := h _ rfl
    replace h := h _ rfl
    replace h := h _ rfl
    refine s_blk [(.aload_n 0, 1, 0, 0), (.iload_n 1, 1, 0, 0), (.putfield 34, 3, 0, 2), (.aload_n 0, 1, 0, 0), (.iload_n 2, 1, 0, 0), (.putfield 37, 3, 0, 3), (.aload_n 0, 1, 0, 0), (.dup, 1, 0, 0), (.getfield 13, 3, 0, 1), (.iconst 1, 1, 0, 0), (.iadd, 1, 0, 0), (.putfield 13, 3, 0, 1)] 27 [some (.ref (77)), some (.int (x1)), some (.int (x2))] [] (q_wI (q_wI (q_wI w 77 2 x1) 77 3 x2) 77 1 (((q_wI (q_wI w 77 2 x1) 77 3 x2).1 77 1) + 1)) [q_id 116 0 77, q_id 116 0 77, q_id 116 0 77, q_id 116 0 77] (by decide +kernel) (by refine qt_aload_n (r := 77) rfl ?_; refine qt_iload_n (x := x1) rfl ?_; refine qt_putI rfl ?_; refine qt_aload_n (r := 77) rfl ?_; refine qt_iload_n (x := x2) rfl ?_; refine qt_putI rfl ?_; refine qt_aload_n (r := 77) rfl ?_; refine qt_dupR ?_; refine qt_getI rfl rfl ?_; refine qt_iconst qc_1 ?_; refine qt_iadd ?_; refine qt_putI rfl ?_; exact qt_z rfl rfl rfl rfl rfl) ⟨(q_id_of rfl), (q_id_of rfl), (q_id_of rfl), (q_id_of rfl)⟩ ?_
    exact s_retV (by decide +kernel) rfl h
theorem eX0_addRest {d : Nat} {x1 : Int32} {x2 : Int32} {w : q_Sm} {Q : s_Po} {X : s_Xo} (h : vX0_addRest_0 d x1 x2 w Q X) : s_Ev (d + 1) 0 mX0_addRest w [.ref (77), .int (x1), .int (x2)] Q X := s_of (by decide +kernel) rfl (Nat.le_of_ble_eq_true rfl) (xX0_addRest_0 h)
def vX11_feed_0 (d : Nat) (x1 : Int32) (x2 : Int32) (x3 : Int32) (x4 : Int32) (x5 : Int32) (w : q_Sm) (Q : s_Po) (X : s_Xo) : Prop := s_EvI d 0 mX10_size w [.ref (2)] (fun v1 u2 => (((v1 + 20) ≤ 600) → s_EvV d 0 mX10_put u2 [.ref (2), .int (x1)] (fun u4 => s_EvV d 0 mX10_put u4 [.ref (2), .int (x2)] (fun u6 => s_EvV d 0 mX10_put u6 [.ref (2), .int (x3)] (fun u8 => s_EvV d 0 mX10_put u8 [.ref (2), .int (x4)] (fun u10 => s_EvV d 0 mX10_put u10 [.ref (2), .int (x5)] (fun u12 => s_EvI d 0 mX10_size u12 [.ref (2)] (fun v13 u14 => Q (some (.int (v13))) u14) X) X) X) X) X) X) ∧ (¬ ((v1 + 20) ≤ 600) → Q (some (.int (-1))) u2)) X
theorem xX11_feed_0 {d : Nat} {x1 : Int32} {x2 : Int32} {x3 : Int32} {x4 : Int32} {x5 : Int32} {w : q_Sm} {Q : s_Po} {X : s_Xo} (h : vX11_feed_0 d x1 x2 x3 x4 x5 w Q X) : s_Ex (d + 1) 0 mX11_feed 0 [some (.ref (1)), some (.int (x1)), some (.int (x2)), some (.int (x3)), some (.int (x4)), some (.int (x5))] [] w Q X := by
  unfold vX11_feed_0 at h
  refine s_blk [(.aload_n 0, 1, 0, 0), (.getfield 10, 3, 11, 0)] 4 [some (.ref (1)), some (.int (x1)), some (.int (x2)), some (.int (x3)), some (.int (x4)), some (.int (x5))] [.ref (2)] w [q_id 116 11 1] (by decide +kernel) (by refine qt_aload_n (r := 1) rfl ?_; refine qt_getR (r := 2) rfl rfl rfl ?_; exact qt_z rfl rfl rfl rfl rfl) (q_id_of rfl) ?_
  refine s_callV (a := 0) (a' := 0) (As := []) (id := 2) (st := []) kX10_size l_11_99 (by decide +kernel) (q_id_of rfl) rfl (Nat.le_of_ble_eq_true rfl) (s_mono h (s_I_of (fun v1 u2 h => ?_)) (fun _ _ h9 => h9))
  show s_Ex (d + 1) 0 mX11_feed 7 [some (.ref (1)), some (.int (x1)), some (.int (x2)), some (.int (x3)), some (.int (x4)), some (.int (x5))] [.int (v1)] u2 Q X
  refine s_blk [(.bipush 20, 2, 0, 0), (.iadd, 1, 0, 0), (.sipush 600, 3, 0, 0)] 13 [some (.ref (1)), some (.int (x1)), some (.int (x2)), some (.int (x3)), some (.int (x4)), some (.int (x5))] [.int (600), .int (v1 + 20)] u2 [] (by decide +kernel) (by refine qt_bipush qb_20 ?_; refine qt_iadd ?_; refine qt_sipush qs_600 ?_; exact qt_z rfl rfl rfl rfl rfl) trivial ?_
  refine s_icmp (cd := .le) (off := 5) 18 (by decide +kernel) (by decide) (fun hc => ?_) (fun hc => ?_)
  · replace h := h.1 hc
    refine s_blk [(.aload_n 0, 1, 0, 0), (.getfield 10, 3, 11, 0), (.iload_n 1, 1, 0, 0)] 23 [some (.ref (1)), some (.int (x1)), some (.int (x2)), some (.int (x3)), some (.int (x4)), some (.int (x5))] [.int (x1), .ref (2)] u2 [q_id 116 11 1] (by decide +kernel) (by refine qt_aload_n (r := 1) rfl ?_; refine qt_getR (r := 2) rfl rfl rfl ?_; refine qt_iload_n (x := x1) rfl ?_; exact qt_z rfl rfl rfl rfl rfl) (q_id_of rfl) ?_
    refine s_callV (a := 0) (a' := 0) (As := [.int (x1)]) (id := 2) (st := []) kX10_put l_11_103 (by decide +kernel) (q_id_of rfl) rfl (Nat.le_of_ble_eq_true rfl) (s_mono h (s_V_of (fun u4 h => ?_)) (fun _ _ h9 => h9))
    show s_Ex (d + 1) 0 mX11_feed 26 [some (.ref (1)), some (.int (x1)), some (.int (x2)), some (.int (x3)), some (.int (x4)), some (.int (x5))] [] u4 Q X
    refine s_blk [(.aload_n 0, 1, 0, 0), (.getfield 10, 3, 11, 0), (.iload_n 2, 1, 0, 0)] 31 [some (.ref (1)), some (.int (x1)), some (.int (x2)), some (.int (x3)), some (.int (x4)), some (.int (x5))] [.int (x2), .ref (2)] u4 [q_id 116 11 1] (by decide +kernel) (by refine qt_aload_n (r := 1) rfl ?_; refine qt_getR (r := 2) rfl rfl rfl ?_; refine qt_iload_n (x := x2) rfl ?_; exact qt_z rfl rfl rfl rfl rfl) (q_id_of rfl) ?_
    refine s_callV (a := 0) (a' := 0) (As := [.int (x2)]) (id := 2) (st := []) kX10_put l_11_103 (by decide +kernel) (q_id_of rfl) rfl (Nat.le_of_ble_eq_true rfl) (s_mono h (s_V_of (fun u6 h => ?_)) (fun _ _ h9 => h9))
    show s_Ex (d + 1) 0 mX11_feed 34 [some (.ref (1)), some (.int (x1)), some (.int (x2)), some (.int (x3)), some (.int (x4)), some (.int (x5))] [] u6 Q X
    refine s_blk [(.aload_n 0, 1, 0, 0), (.getfield 10, 3, 11, 0), (.iload_n 3, 1, 0, 0)] 39 [some (.ref (1)), some (.int (x1)), some (.int (x2)), some (.int (x3)), some (.int (x4)), some (.int (x5))] [.int (x3), .ref (2)] u6 [q_id 116 11 1] (by decide +kernel) (by refine qt_aload_n (r := 1) rfl ?_; refine qt_getR (r := 2) rfl rfl rfl ?_; refine qt_iload_n (x := x3) rfl ?_; exact qt_z rfl rfl rfl rfl rfl) (q_id_of rfl) ?_
    refine s_callV (a := 0) (a' := 0) (As := [.int (x3)]) (id := 2) (st := []) kX10_put l_11_103 (by decide +kernel) (q_id_of rfl) rfl (Nat.le_of_ble_eq_true rfl) (s_mono h (s_V_of (fun u8 h => ?_)) (fun _ _ h9 => h9))
    show s_Ex (d + 1) 0 mX11_feed 42 [some (.ref (1)), some (.int (x1)), some (.int (x2)), some (.int (x3)), some (.int (x4)), some (.int (x5))] [] u8 Q X
    refine s_blk [(.aload_n 0, 1, 0, 0), (.getfield 10, 3, 11, 0), (.iload 4, 2, 0, 0)] 48 [some (.ref (1)), some (.int (x1)), some (.int (x2)), some (.int (x3)), some (.int (x4)), some (.int (x5))] [.int (x4), .ref (2)] u8 [q_id 116 11 1] (by decide +kernel) (by refine qt_aload_n (r := 1) rfl ?_; refine qt_getR (r := 2) rfl rfl rfl ?_; refine qt_iload (x := x4) rfl ?_; exact qt_z rfl rfl rfl rfl rfl) (q_id_of rfl) ?_
    refine s_callV (a := 0) (a' := 0) (As := [.int (x4)]) (id := 2) (st := []) kX10_put l_11_103 (by decide +kernel) (q_id_of rfl) rfl (Nat.le_of_ble_eq_true rfl) (s_mono h (s_V_of (fun u10 h => ?_)) (fun _ _ h9 => h9))
    show s_Ex (d + 1) 0 mX11_feed 51 [some (.ref (1)), some (.int (x1)), some (.int (x2)), some (.int (x3)), some (.int (x4)), some (.int (x5))] [] u10 Q X
    refine s_blk [(.aload_n 0, 1, 0, 0), (.getfield 10, 3, 11, 0), (.iload 5, 2, 0, 0)] 57 [some (.ref (1)), some (.int (x1)), some (.int (x2)), some (.int (x3)), some (.int (x4)), some (.int (x5))] [.int (x5), .ref (2)] u10 [q_id 116 11 1] (by decide +kernel) (by refine qt_aload_n (r := 1) rfl ?_; refine qt_getR (r := 2) rfl rfl rfl ?_; refine qt_iload (x := x5) rfl ?_; exact qt_z rfl rfl rfl rfl rfl) (q_id_of rfl) ?_
    refine s_callV (a := 0) (a' := 0) (As := [.int (x5)]) (id := 2) (st := []) kX10_put l_11_103 (by decide +kernel) (q_id_of rfl) rfl (Nat.le_of_ble_eq_true rfl) (s_mono h (s_V_of (fun u12 h => ?_)) (fun _ _ h9 => h9))
    show s_Ex (d + 1) 0 mX11_feed 60 [some (.ref (1)), some (.int (x1)), some (.int (x2)), some (.int (x3)), some (.int (x4)), some (.int (x5))] [] u12 Q X
    refine s_blk [(.aload_n 0, 1, 0, 0), (.getfield 10, 3, 11, 0)] 64 [some (.ref (1)), some (.int (x1)), some (.int (x2)), some (.int (x3)), some (.int (x4)), some (.int (x5))] [.ref (2)] u12 [q_id 116 11 1] (by decide +kernel) (by refine qt_aload_n (r := 1) rfl ?_; refine qt_getR (r := 2) rfl rfl rfl ?_; exact qt_z rfl rfl rfl rfl rfl) (q_id_of rfl) ?_
    refine s_callV (a := 0) (a' := 0) (As := []) (id := 2) (st := []) kX10_size l_11_99 (by decide +kernel) (q_id_of rfl) rfl (Nat.le_of_ble_eq_true rfl) (s_mono h (s_I_of (fun v13 u14 h => ?_)) (fun _ _ h9 => h9))
    show s_Ex (d + 1) 0 mX11_feed 67 [some (.ref (1)), some (.int (x1)), some (.int (x2)), some (.int (x3)), some (.int (x4)), some (.int (x5))] [.int (v13)] u14 Q X
    exact s_retI .int (by decide +kernel) rfl rfl h
  · replace h := h.2 hc
    refine s_blk [(.iconst (-1), 1, 0, 0)] 17 [some (.ref (1)), some (.int (x1)), some (.int (x2)), some (.int (x3)), some (.int (x4)), some (.int (x5))] [.int (-1)] u2 [] (by decide +kernel) (by refine qt_iconst qc_m1 ?_; exact qt_z rfl rfl rfl rfl rfl) trivial ?_
    exact s_retI .int (by decide +kernel) rfl rfl h
theorem eX11_feed {d : Nat} {x1 : Int32} {x2 : Int32} {x3 : Int32} {x4 : Int32} {x5 : Int32} {w : q_Sm} {Q : s_Po} {X : s_Xo} (h : vX11_feed_0 d x1 x2 x3 x4 x5 w Q X) : s_Ev (d + 1) 0 mX11_feed w [.ref (1), .int (x1), .int (x2), .int (x3), .int (x4), .int (x5)] Q X := s_of (by decide +kernel) rfl (Nat.le_of_ble_eq_true rfl) (xX11_feed_0 h)
def vX11_coast_0 (d : Nat) (x1 : Int32) (w : q_Sm) (Q : s_Po) (X : s_Xo) : Prop := s_EvV d 1 mX11_openText w [.ref (1), .int (x1), .int (600)] (fun u2 => q_id 116 2 (u2.2.2.2.1) ∧ s_EvV d 0 mX2_read u2 [.ref (u2.2.2.2.1), .ref (2)] (fun u4 => s_EvI d 0 mX10_failed u4 [.ref (2)] (fun v5 u6 => ((v5 = 0) → ∀ w_7 : q_Sm, w_7 = (u6.1, u6.2.1, u6.2.2.2.1, u6.2.2.2.1, u6.2.2.2.2.1, u6.2.2.2.2.2.1, u6.2.2.2.2.2.2.1, u6.2.2.2.2.2.2.2) → ∀ w_8 : q_Sm, w_8 = (w_7.1, w_7.2.1, w_7.2.2.1, u6.2.2.1, w_7.2.2.2.2.1, w_7.2.2.2.2.2.1, w_7.2.2.2.2.2.2.1, w_7.2.2.2.2.2.2.2) → s_EvV d 0 mX11_startAnew w_8 [.ref (1)] (fun u10 => (q_id 116 2 (u10.2.2.1)) ∧ Q (some (.int (u10.1 (u10.2.2.1) 3))) u10) X) ∧ (¬ (v5 = 0) → s_EvI d 0 mX10_faultKind u6 [.ref (2)] (fun v12 u13 => Q (some (.int (v12 - 10))) u13) X)) X) X) X
theorem xX11_coast_0 {d : Nat} {x1 : Int32} {w : q_Sm} {Q : s_Po} {X : s_Xo} (h : vX11_coast_0 d x1 w Q X) : s_Ex (d + 1) 1 mX11_coast 0 [some (.ref (1)), some (.int (x1)), none] [] w Q X := by
  unfold vX11_coast_0 at h
  refine s_blk [(.aload_n 0, 1, 0, 0), (.iload_n 1, 1, 0, 0), (.sipush 600, 3, 0, 0)] 5 [some (.ref (1)), some (.int (x1)), none] [.int (600), .int (x1), .ref (1)] w [] (by decide +kernel) (by refine qt_aload_n (r := 1) rfl ?_; refine qt_iload_n (x := x1) rfl ?_; refine qt_sipush qs_600 ?_; exact qt_z rfl rfl rfl rfl rfl) trivial ?_
  refine s_callV (a := 0) (a' := 1) (As := [.int (x1), .int (600)]) (id := 1) (st := []) kX11_openText l_11_107 (by decide +kernel) (q_id_of rfl) rfl (Nat.le_of_ble_eq_true rfl) (s_mono h (s_V_of (fun u2 h => ?_)) (fun _ _ h9 => h9))
  show s_Ex (d + 1) 0 mX11_coast 8 [some (.ref (1)), some (.int (x1)), none] [] u2 Q X
  refine s_blk [(.aload_n 0, 1, 0, 0), (.getfield 23, 3, 11, 2), (.aload_n 0, 1, 0, 0), (.getfield 10, 3, 11, 0)] 16 [some (.ref (1)), some (.int (x1)), none] [.ref (2), .ref (u2.2.2.2.1)] u2 [q_id 116 11 1, q_id 116 11 1] (by decide +kernel) (by refine qt_aload_n (r := 1) rfl ?_; refine qt_getR (r := u2.2.2.2.1) rfl rfl rfl ?_; refine qt_aload_n (r := 1) rfl ?_; refine qt_getR (r := 2) rfl rfl rfl ?_; exact qt_z rfl rfl rfl rfl rfl) ⟨(q_id_of rfl), (q_id_of rfl)⟩ ?_
  obtain ⟨hid, h⟩ := h
  refine s_callV (a := 0) (a' := 0) (As := [.ref (2)]) (id := u2.2.2.2.1) (st := []) kX2_read l_11_111 (by decide +kernel) hid rfl (Nat.le_of_ble_eq_true rfl) (s_mono h (s_V_of (fun u4 h => ?_)) (fun _ _ h9 => h9))
  show s_Ex (d + 1) 0 mX11_coast 19 [some (.ref (1)), some (.int (x1)), none] [] u4 Q X
  refine s_blk [(.aload_n 0, 1, 0, 0), (.getfield 10, 3, 11, 0)] 23 [some (.ref (1)), some (.int (x1)), none] [.ref (2)] u4 [q_id 116 11 1] (by decide +kernel) (by refine qt_aload_n (r := 1) rfl ?_; refine qt_getR (r := 2) rfl rfl rfl ?_; exact qt_z rfl rfl rfl rfl rfl) (q_id_of rfl) ?_
  refine s_callV (a := 0) (a' := 0) (As := []) (id := 2) (st := []) kX10_failed l_11_115 (by decide +kernel) (q_id_of rfl) rfl (Nat.le_of_ble_eq_true rfl) (s_mono h (s_I_of (fun v5 u6 h => ?_)) (fun _ _ h9 => h9))
  show s_Ex (d + 1) 0 mX11_coast 26 [some (.ref (1)), some (.int (x1)), none] [.int (v5)] u6 Q X
  refine s_if (cd := .eq) (off := 14) 40 (by decide +kernel) (by decide) (fun hc => ?_) (fun hc => ?_)
  · replace h := h.1 hc
    replace h := h _ rfl
    replace h := h _ rfl
    refine s_blk [(.aload_n 0, 1, 0, 0), (.getfield 19, 3, 11, 1), (.astore_n 2, 1, 0, 0), (.aload_n 0, 1, 0, 0), (.aload_n 0, 1, 0, 0), (.getfield 23, 3, 11, 2), (.putfield 19, 3, 11, 1), (.aload_n 0, 1, 0, 0), (.aload_n 2, 1, 0, 0), (.putfield 23, 3, 11, 2), (.aload_n 0, 1, 0, 0)] 59 [some (.ref (1)), some (.int (x1)), some (.ref (u6.2.2.1))] [.ref (1)] ((((u6.1, u6.2.1, u6.2.2.2.1, u6.2.2.2.1, u6.2.2.2.2.1, u6.2.2.2.2.2.1, u6.2.2.2.2.2.2.1, u6.2.2.2.2.2.2.2) : q_Sm).1, ((u6.1, u6.2.1, u6.2.2.2.1, u6.2.2.2.1, u6.2.2.2.2.1, u6.2.2.2.2.2.1, u6.2.2.2.2.2.2.1, u6.2.2.2.2.2.2.2) : q_Sm).2.1, ((u6.1, u6.2.1, u6.2.2.2.1, u6.2.2.2.1, u6.2.2.2.2.1, u6.2.2.2.2.2.1, u6.2.2.2.2.2.2.1, u6.2.2.2.2.2.2.2) : q_Sm).2.2.1, u6.2.2.1, ((u6.1, u6.2.1, u6.2.2.2.1, u6.2.2.2.1, u6.2.2.2.2.1, u6.2.2.2.2.2.1, u6.2.2.2.2.2.2.1, u6.2.2.2.2.2.2.2) : q_Sm).2.2.2.2.1, ((u6.1, u6.2.1, u6.2.2.2.1, u6.2.2.2.1, u6.2.2.2.2.1, u6.2.2.2.2.2.1, u6.2.2.2.2.2.2.1, u6.2.2.2.2.2.2.2) : q_Sm).2.2.2.2.2.1, ((u6.1, u6.2.1, u6.2.2.2.1, u6.2.2.2.1, u6.2.2.2.2.1, u6.2.2.2.2.2.1, u6.2.2.2.2.2.2.1, u6.2.2.2.2.2.2.2) : q_Sm).2.2.2.2.2.2.1, ((u6.1, u6.2.1, u6.2.2.2.1, u6.2.2.2.1, u6.2.2.2.2.1, u6.2.2.2.2.2.1, u6.2.2.2.2.2.2.1, u6.2.2.2.2.2.2.2) : q_Sm).2.2.2.2.2.2.2) : q_Sm) [q_id 116 11 1, q_id 116 11 1, q_id 116 11 1, q_id 116 11 1] (by decide +kernel) (by refine qt_aload_n (r := 1) rfl ?_; refine qt_getR (r := u6.2.2.1) rfl rfl rfl ?_; refine qt_astore_n (L' := [some (.ref (1)), some (.int (x1)), some (.ref (u6.2.2.1))]) rfl ?_; refine qt_aload_n (r := 1) rfl ?_; refine qt_aload_n (r := 1) rfl ?_; refine qt_getR (r := u6.2.2.2.1) rfl rfl rfl ?_; refine qt_putR rfl (qR_1 _ _) ?_; refine qt_aload_n (r := 1) rfl ?_; refine qt_aload_n (r := u6.2.2.1) rfl ?_; refine qt_putR rfl (qR_2 _ _) ?_; refine qt_aload_n (r := 1) rfl ?_; exact qt_z rfl rfl rfl rfl rfl) ⟨(q_id_of rfl), (q_id_of rfl), (q_id_of rfl), (q_id_of rfl)⟩ ?_
    refine s_callV (a := 0) (a' := 0) (As := []) (id := 1) (st := []) kX11_startAnew l_11_122 (by decide +kernel) (q_id_of rfl) rfl (Nat.le_of_ble_eq_true rfl) (s_mono h (s_V_of (fun u10 h => ?_)) (fun _ _ h9 => h9))
    show s_Ex (d + 1) 0 mX11_coast 62 [some (.ref (1)), some (.int (x1)), some (.ref (u6.2.2.1))] [] u10 Q X
    obtain ⟨ho11, h⟩ := h
    refine s_blk [(.aload_n 0, 1, 0, 0), (.getfield 19, 3, 11, 1), (.getfield 125, 3, 2, 3)] 69 [some (.ref (1)), some (.int (x1)), some (.ref (u6.2.2.1))] [.int (u10.1 (u10.2.2.1) 3)] u10 [q_id 116 11 1, q_id 116 2 (u10.2.2.1)] (by decide +kernel) (by refine qt_aload_n (r := 1) rfl ?_; refine qt_getR (r := u10.2.2.1) rfl rfl rfl ?_; refine qt_getI rfl rfl ?_; exact qt_z rfl rfl rfl rfl rfl) ⟨(q_id_of rfl), ho11⟩ ?_
    exact s_retI .int (by decide +kernel) rfl rfl h
  · replace h := h.2 hc
    refine s_blk [(.aload_n 0, 1, 0, 0), (.getfield 10, 3, 11, 0)] 33 [some (.ref (1)), some (.int (x1)), none] [.ref (2)] u6 [q_id 116 11 1] (by decide +kernel) (by refine qt_aload_n (r := 1) rfl ?_; refine qt_getR (r := 2) rfl rfl rfl ?_; exact qt_z rfl rfl rfl rfl rfl) (q_id_of rfl) ?_
    refine s_callV (a := 0) (a' := 0) (As := []) (id := 2) (st := []) kX10_faultKind l_11_119 (by decide +kernel) (q_id_of rfl) rfl (Nat.le_of_ble_eq_true rfl) (s_mono h (s_I_of (fun v12 u13 h => ?_)) (fun _ _ h9 => h9))
    show s_Ex (d + 1) 0 mX11_coast 36 [some (.ref (1)), some (.int (x1)), none] [.int (v12)] u13 Q X
    refine s_blk [(.bipush 10, 2, 0, 0), (.isub, 1, 0, 0)] 39 [some (.ref (1)), some (.int (x1)), none] [.int (v12 - 10)] u13 [] (by decide +kernel) (by refine qt_bipush qb_10 ?_; refine qt_isub ?_; exact qt_z rfl rfl rfl rfl rfl) trivial ?_
    exact s_retI .int (by decide +kernel) rfl rfl h
theorem eX11_coast {d : Nat} {x1 : Int32} {w : q_Sm} {Q : s_Po} {X : s_Xo} (h : vX11_coast_0 d x1 w Q X) : s_Ev (d + 1) 1 mX11_coast w [.ref (1), .int (x1)] Q X := s_of (by decide +kernel) rfl (Nat.le_of_ble_eq_true rfl) (xX11_coast_0 h)
def vX11_law_0 (d : Nat) (x1 : Int32) (w : q_Sm) (Q : s_Po) (X : s_Xo) : Prop := s_EvV d 1 mX11_openText w [.ref (1), .int (x1), .int (150)] (fun u2 => q_id 116 5 (u2.2.2.2.2.2.1) ∧ s_EvV d 0 mX5_read u2 [.ref (u2.2.2.2.2.2.1), .ref (2)] (fun u4 => s_EvI d 0 mX10_failed u4 [.ref (2)] (fun v5 u6 => ((v5 = 0) → ∀ w_7 : q_Sm, w_7 = (u6.1, u6.2.1, u6.2.2.1, u6.2.2.2.1, u6.2.2.2.2.2.1, u6.2.2.2.2.2.1, u6.2.2.2.2.2.2.1, u6.2.2.2.2.2.2.2) → ∀ w_8 : q_Sm, w_8 = (w_7.1, w_7.2.1, w_7.2.2.1, w_7.2.2.2.1, w_7.2.2.2.2.1, u6.2.2.2.2.1, w_7.2.2.2.2.2.2.1, w_7.2.2.2.2.2.2.2) → Q (some (.int (1))) w_8) ∧ (¬ (v5 = 0) → s_EvI d 0 mX10_faultKind u6 [.ref (2)] (fun v9 u10 => Q (some (.int (v9 - 10))) u10) X)) X) X) X
theorem xX11_law_0 {d : Nat} {x1 : Int32} {w : q_Sm} {Q : s_Po} {X : s_Xo} (h : vX11_law_0 d x1 w Q X) : s_Ex (d + 1) 1 mX11_law 0 [some (.ref (1)), some (.int (x1)), none] [] w Q X := by
  unfold vX11_law_0 at h
  refine s_blk [(.aload_n 0, 1, 0, 0), (.iload_n 1, 1, 0, 0), (.sipush 150, 3, 0, 0)] 5 [some (.ref (1)), some (.int (x1)), none] [.int (150), .int (x1), .ref (1)] w [] (by decide +kernel) (by refine qt_aload_n (r := 1) rfl ?_; refine qt_iload_n (x := x1) rfl ?_; refine qt_sipush qs_150 ?_; exact qt_z rfl rfl rfl rfl rfl) trivial ?_
  refine s_callV (a := 0) (a' := 1) (As := [.int (x1), .int (150)]) (id := 1) (st := []) kX11_openText l_11_107 (by decide +kernel) (q_id_of rfl) rfl (Nat.le_of_ble_eq_true rfl) (s_mono h (s_V_of (fun u2 h => ?_)) (fun _ _ h9 => h9))
  show s_Ex (d + 1) 0 mX11_law 8 [some (.ref (1)), some (.int (x1)), none] [] u2 Q X
  refine s_blk [(.aload_n 0, 1, 0, 0), (.getfield 33, 3, 11, 4), (.aload_n 0, 1, 0, 0), (.getfield 10, 3, 11, 0)] 16 [some (.ref (1)), some (.int (x1)), none] [.ref (2), .ref (u2.2.2.2.2.2.1)] u2 [q_id 116 11 1, q_id 116 11 1] (by decide +kernel) (by refine qt_aload_n (r := 1) rfl ?_; refine qt_getR (r := u2.2.2.2.2.2.1) rfl rfl rfl ?_; refine qt_aload_n (r := 1) rfl ?_; refine qt_getR (r := 2) rfl rfl rfl ?_; exact qt_z rfl rfl rfl rfl rfl) ⟨(q_id_of rfl), (q_id_of rfl)⟩ ?_
  obtain ⟨hid, h⟩ := h
  refine s_callV (a := 0) (a' := 0) (As := [.ref (2)]) (id := u2.2.2.2.2.2.1) (st := []) kX5_read l_11_129 (by decide +kernel) hid rfl (Nat.le_of_ble_eq_true rfl) (s_mono h (s_V_of (fun u4 h => ?_)) (fun _ _ h9 => h9))
  show s_Ex (d + 1) 0 mX11_law 19 [some (.ref (1)), some (.int (x1)), none] [] u4 Q X
  refine s_blk [(.aload_n 0, 1, 0, 0), (.getfield 10, 3, 11, 0)] 23 [some (.ref (1)), some (.int (x1)), none] [.ref (2)] u4 [q_id 116 11 1] (by decide +kernel) (by refine qt_aload_n (r := 1) rfl ?_; refine qt_getR (r := 2) rfl rfl rfl ?_; exact qt_z rfl rfl rfl rfl rfl) (q_id_of rfl) ?_
  refine s_callV (a := 0) (a' := 0) (As := []) (id := 2) (st := []) kX10_failed l_11_115 (by decide +kernel) (q_id_of rfl) rfl (Nat.le_of_ble_eq_true rfl) (s_mono h (s_I_of (fun v5 u6 h => ?_)) (fun _ _ h9 => h9))
  show s_Ex (d + 1) 0 mX11_law 26 [some (.ref (1)), some (.int (x1)), none] [.int (v5)] u6 Q X
  refine s_if (cd := .eq) (off := 14) 40 (by decide +kernel) (by decide) (fun hc => ?_) (fun hc => ?_)
  · replace h := h.1 hc
    replace h := h _ rfl
    replace h := h _ rfl
    refine s_blk [(.aload_n 0, 1, 0, 0), (.getfield 29, 3, 11, 3), (.astore_n 2, 1, 0, 0), (.aload_n 0, 1, 0, 0), (.aload_n 0, 1, 0, 0), (.getfield 33, 3, 11, 4), (.putfield 29, 3, 11, 3), (.aload_n 0, 1, 0, 0), (.aload_n 2, 1, 0, 0), (.putfield 33, 3, 11, 4), (.iconst 1, 1, 0, 0)] 59 [some (.ref (1)), some (.int (x1)), some (.ref (u6.2.2.2.2.1))] [.int (1)] ((((u6.1, u6.2.1, u6.2.2.1, u6.2.2.2.1, u6.2.2.2.2.2.1, u6.2.2.2.2.2.1, u6.2.2.2.2.2.2.1, u6.2.2.2.2.2.2.2) : q_Sm).1, ((u6.1, u6.2.1, u6.2.2.1, u6.2.2.2.1, u6.2.2.2.2.2.1, u6.2.2.2.2.2.1, u6.2.2.2.2.2.2.1, u6.2.2.2.2.2.2.2) : q_Sm).2.1, ((u6.1, u6.2.1, u6.2.2.1, u6.2.2.2.1, u6.2.2.2.2.2.1, u6.2.2.2.2.2.1, u6.2.2.2.2.2.2.1, u6.2.2.2.2.2.2.2) : q_Sm).2.2.1, ((u6.1, u6.2.1, u6.2.2.1, u6.2.2.2.1, u6.2.2.2.2.2.1, u6.2.2.2.2.2.1, u6.2.2.2.2.2.2.1, u6.2.2.2.2.2.2.2) : q_Sm).2.2.2.1, ((u6.1, u6.2.1, u6.2.2.1, u6.2.2.2.1, u6.2.2.2.2.2.1, u6.2.2.2.2.2.1, u6.2.2.2.2.2.2.1, u6.2.2.2.2.2.2.2) : q_Sm).2.2.2.2.1, u6.2.2.2.2.1, ((u6.1, u6.2.1, u6.2.2.1, u6.2.2.2.1, u6.2.2.2.2.2.1, u6.2.2.2.2.2.1, u6.2.2.2.2.2.2.1, u6.2.2.2.2.2.2.2) : q_Sm).2.2.2.2.2.2.1, ((u6.1, u6.2.1, u6.2.2.1, u6.2.2.2.1, u6.2.2.2.2.2.1, u6.2.2.2.2.2.1, u6.2.2.2.2.2.2.1, u6.2.2.2.2.2.2.2) : q_Sm).2.2.2.2.2.2.2) : q_Sm) [q_id 116 11 1, q_id 116 11 1, q_id 116 11 1, q_id 116 11 1] (by decide +kernel) (by refine qt_aload_n (r := 1) rfl ?_; refine qt_getR (r := u6.2.2.2.2.1) rfl rfl rfl ?_; refine qt_astore_n (L' := [some (.ref (1)), some (.int (x1)), some (.ref (u6.2.2.2.2.1))]) rfl ?_; refine qt_aload_n (r := 1) rfl ?_; refine qt_aload_n (r := 1) rfl ?_; refine qt_getR (r := u6.2.2.2.2.2.1) rfl rfl rfl ?_; refine qt_putR rfl (qR_3 _ _) ?_; refine qt_aload_n (r := 1) rfl ?_; refine qt_aload_n (r := u6.2.2.2.2.1) rfl ?_; refine qt_putR rfl (qR_4 _ _) ?_; refine qt_iconst qc_1 ?_; exact qt_z rfl rfl rfl rfl rfl) ⟨(q_id_of rfl), (q_id_of rfl), (q_id_of rfl), (q_id_of rfl)⟩ ?_
    exact s_retI .int (by decide +kernel) rfl rfl h
  · replace h := h.2 hc
    refine s_blk [(.aload_n 0, 1, 0, 0), (.getfield 10, 3, 11, 0)] 33 [some (.ref (1)), some (.int (x1)), none] [.ref (2)] u6 [q_id 116 11 1] (by decide +kernel) (by refine qt_aload_n (r := 1) rfl ?_; refine qt_getR (r := 2) rfl rfl rfl ?_; exact qt_z rfl rfl rfl rfl rfl) (q_id_of rfl) ?_
    refine s_callV (a := 0) (a' := 0) (As := []) (id := 2) (st := []) kX10_faultKind l_11_119 (by decide +kernel) (q_id_of rfl) rfl (Nat.le_of_ble_eq_true rfl) (s_mono h (s_I_of (fun v9 u10 h => ?_)) (fun _ _ h9 => h9))
    show s_Ex (d + 1) 0 mX11_law 36 [some (.ref (1)), some (.int (x1)), none] [.int (v9)] u10 Q X
    refine s_blk [(.bipush 10, 2, 0, 0), (.isub, 1, 0, 0)] 39 [some (.ref (1)), some (.int (x1)), none] [.int (v9 - 10)] u10 [] (by decide +kernel) (by refine qt_bipush qb_10 ?_; refine qt_isub ?_; exact qt_z rfl rfl rfl rfl rfl) trivial ?_
    exact s_retI .int (by decide +kernel) rfl rfl h
theorem eX11_law {d : Nat} {x1 : Int32} {w : q_Sm} {Q : s_Po} {X : s_Xo} (h : vX11_law_0 d x1 w Q X) : s_Ev (d + 1) 1 mX11_law w [.ref (1), .int (x1)] Q X := s_of (by decide +kernel) rfl (Nat.le_of_ble_eq_true rfl) (xX11_law_0 h)
def vX11_work_0 (d : Nat) (x1 : Int32) (w : q_Sm) (Q : s_Po) (X : s_Xo) : Prop := s_EvV d 1 mX11_openText w [.ref (1), .int (x1), .int (150)] (fun u2 => s_EvI d 0 mX8_size u2 [.ref (58)] (fun v3 u4 => ((v3 < 16) → s_EvV d 0 mX9_read u4 [.ref (52), .ref (2), .ref (u4.2.2.1)] (fun u6 => s_EvI d 0 mX10_failed u6 [.ref (2)] (fun v7 u8 => ((v7 = 0) → s_EvV d 0 mX8_push u8 [.ref (58), .ref (56)] (fun u10 => s_EvV d 0 mX9_run u10 [.ref (52), .ref (56), .ref (u10.2.2.1), .ref (u10.2.2.2.2.1)] (fun u12 => ∀ w_13 : q_Sm, w_13 = q_wI u12 1 12 (u12.1 52 6) → Q (some (.int (w_13.1 52 5))) w_13) X) X) ∧ (¬ (v7 = 0) → s_EvI d 0 mX10_faultKind u8 [.ref (2)] (fun v14 u15 => Q (some (.int (v14 - 10))) u15) X)) X) X) ∧ (¬ (v3 < 16) → Q (some (.int (-20))) u4)) X) X
theorem xX11_work_0 {d : Nat} {x1 : Int32} {w : q_Sm} {Q : s_Po} {X : s_Xo} (h : vX11_work_0 d x1 w Q X) : s_Ex (d + 1) 1 mX11_work 0 [some (.ref (1)), some (.int (x1))] [] w Q X := by
  unfold vX11_work_0 at h
  refine s_blk [(.aload_n 0, 1, 0, 0), (.iload_n 1, 1, 0, 0), (.sipush 150, 3, 0, 0)] 5 [some (.ref (1)), some (.int (x1))] [.int (150), .int (x1), .ref (1)] w [] (by decide +kernel) (by refine qt_aload_n (r := 1) rfl ?_; refine qt_iload_n (x := x1) rfl ?_; refine qt_sipush qs_150 ?_; exact qt_z rfl rfl rfl rfl rfl) trivial ?_
  refine s_callV (a := 0) (a' := 1) (As := [.int (x1), .int (150)]) (id := 1) (st := []) kX11_openText l_11_107 (by decide +kernel) (q_id_of rfl) rfl (Nat.le_of_ble_eq_true rfl) (s_mono h (s_V_of (fun u2 h => ?_)) (fun _ _ h9 => h9))
  show s_Ex (d + 1) 0 mX11_work 8 [some (.ref (1)), some (.int (x1))] [] u2 Q X
  refine s_blk [(.aload_n 0, 1, 0, 0), (.getfield 63, 3, 11, 9)] 12 [some (.ref (1)), some (.int (x1))] [.ref (58)] u2 [q_id 116 11 1] (by decide +kernel) (by refine qt_aload_n (r := 1) rfl ?_; refine qt_getR (r := 58) rfl rfl rfl ?_; exact qt_z rfl rfl rfl rfl rfl) (q_id_of rfl) ?_
  refine s_callV (a := 0) (a' := 0) (As := []) (id := 58) (st := []) kX8_size l_11_130 (by decide +kernel) (q_id_of rfl) rfl (Nat.le_of_ble_eq_true rfl) (s_mono h (s_I_of (fun v3 u4 h => ?_)) (fun _ _ h9 => h9))
  show s_Ex (d + 1) 0 mX11_work 15 [some (.ref (1)), some (.int (x1))] [.int (v3)] u4 Q X
  refine s_blk [(.bipush 16, 2, 0, 0)] 17 [some (.ref (1)), some (.int (x1))] [.int (16), .int (v3)] u4 [] (by decide +kernel) (by refine qt_bipush qb_16 ?_; exact qt_z rfl rfl rfl rfl rfl) trivial ?_
  refine s_icmp (cd := .lt) (off := 6) 23 (by decide +kernel) (by decide) (fun hc => ?_) (fun hc => ?_)
  · replace h := h.1 hc
    refine s_blk [(.aload_n 0, 1, 0, 0), (.getfield 49, 3, 11, 7), (.aload_n 0, 1, 0, 0), (.getfield 10, 3, 11, 0), (.aload_n 0, 1, 0, 0), (.getfield 19, 3, 11, 1)] 35 [some (.ref (1)), some (.int (x1))] [.ref (u4.2.2.1), .ref (2), .ref (52)] u4 [q_id 116 11 1, q_id 116 11 1, q_id 116 11 1] (by decide +kernel) (by refine qt_aload_n (r := 1) rfl ?_; refine qt_getR (r := 52) rfl rfl rfl ?_; refine qt_aload_n (r := 1) rfl ?_; refine qt_getR (r := 2) rfl rfl rfl ?_; refine qt_aload_n (r := 1) rfl ?_; refine qt_getR (r := u4.2.2.1) rfl rfl rfl ?_; exact qt_z rfl rfl rfl rfl rfl) ⟨(q_id_of rfl), (q_id_of rfl), (q_id_of rfl)⟩ ?_
    refine s_callV (a := 0) (a' := 0) (As := [.ref (2), .ref (u4.2.2.1)]) (id := 52) (st := []) kX9_read l_11_131 (by decide +kernel) (q_id_of rfl) rfl (Nat.le_of_ble_eq_true rfl) (s_mono h (s_V_of (fun u6 h => ?_)) (fun _ _ h9 => h9))
    show s_Ex (d + 1) 0 mX11_work 38 [some (.ref (1)), some (.int (x1))] [] u6 Q X
    refine s_blk [(.aload_n 0, 1, 0, 0), (.getfield 10, 3, 11, 0)] 42 [some (.ref (1)), some (.int (x1))] [.ref (2)] u6 [q_id 116 11 1] (by decide +kernel) (by refine qt_aload_n (r := 1) rfl ?_; refine qt_getR (r := 2) rfl rfl rfl ?_; exact qt_z rfl rfl rfl rfl rfl) (q_id_of rfl) ?_
    refine s_callV (a := 0) (a' := 0) (As := []) (id := 2) (st := []) kX10_failed l_11_115 (by decide +kernel) (q_id_of rfl) rfl (Nat.le_of_ble_eq_true rfl) (s_mono h (s_I_of (fun v7 u8 h => ?_)) (fun _ _ h9 => h9))
    show s_Ex (d + 1) 0 mX11_work 45 [some (.ref (1)), some (.int (x1))] [.int (v7)] u8 Q X
    refine s_if (cd := .eq) (off := 14) 59 (by decide +kernel) (by decide) (fun hc => ?_) (fun hc => ?_)
    · replace h := h.1 hc
      refine s_blk [(.aload_n 0, 1, 0, 0), (.getfield 63, 3, 11, 9), (.aload_n 0, 1, 0, 0), (.getfield 56, 3, 11, 8)] 67 [some (.ref (1)), some (.int (x1))] [.ref (56), .ref (58)] u8 [q_id 116 11 1, q_id 116 11 1] (by decide +kernel) (by refine qt_aload_n (r := 1) rfl ?_; refine qt_getR (r := 58) rfl rfl rfl ?_; refine qt_aload_n (r := 1) rfl ?_; refine qt_getR (r := 56) rfl rfl rfl ?_; exact qt_z rfl rfl rfl rfl rfl) ⟨(q_id_of rfl), (q_id_of rfl)⟩ ?_
      refine s_callV (a := 0) (a' := 0) (As := [.ref (56)]) (id := 58) (st := []) kX8_push l_11_134 (by decide +kernel) (q_id_of rfl) rfl (Nat.le_of_ble_eq_true rfl) (s_mono h (s_V_of (fun u10 h => ?_)) (fun _ _ h9 => h9))
      show s_Ex (d + 1) 0 mX11_work 70 [some (.ref (1)), some (.int (x1))] [] u10 Q X
      refine s_blk [(.aload_n 0, 1, 0, 0), (.getfield 49, 3, 11, 7), (.aload_n 0, 1, 0, 0), (.getfield 56, 3, 11, 8), (.aload_n 0, 1, 0, 0), (.getfield 19, 3, 11, 1), (.aload_n 0, 1, 0, 0), (.getfield 29, 3, 11, 3)] 86 [some (.ref (1)), some (.int (x1))] [.ref (u10.2.2.2.2.1), .ref (u10.2.2.1), .ref (56), .ref (52)] u10 [q_id 116 11 1, q_id 116 11 1, q_id 116 11 1, q_id 116 11 1] (by decide +kernel) (by refine qt_aload_n (r := 1) rfl ?_; refine qt_getR (r := 52) rfl rfl rfl ?_; refine qt_aload_n (r := 1) rfl ?_; refine qt_getR (r := 56) rfl rfl rfl ?_; refine qt_aload_n (r := 1) rfl ?_; refine qt_getR (r := u10.2.2.1) rfl rfl rfl ?_; refine qt_aload_n (r := 1) rfl ?_; refine qt_getR (r := u10.2.2.2.2.1) rfl rfl rfl ?_; exact qt_z rfl rfl rfl rfl rfl) ⟨(q_id_of rfl), (q_id_of rfl), (q_id_of rfl), (q_id_of rfl)⟩ ?_
      refine s_callV (a := 0) (a' := 0) (As := [.ref (56), .ref (u10.2.2.1), .ref (u10.2.2.2.2.1)]) (id := 52) (st := []) kX9_run l_11_138 (by decide +kernel) (q_id_of rfl) rfl (Nat.le_of_ble_eq_true rfl) (s_mono h (s_V_of (fun u12 h => ?_)) (fun _ _ h9 => h9))
      show s_Ex (d + 1) 0 mX11_work 89 [some (.ref (1)), some (.int (x1))] [] u12 Q X
      replace h := h _ rfl
      refine s_blk [(.aload_n 0, 1, 0, 0), (.aload_n 0, 1, 0, 0), (.getfield 49, 3, 11, 7), (.getfield 142, 3, 9, 6), (.putfield 145, 3, 11, 12), (.aload_n 0, 1, 0, 0), (.getfield 49, 3, 11, 7), (.getfield 148, 3, 9, 5)] 107 [some (.ref (1)), some (.int (x1))] [.int ((q_wI u12 1 12 (u12.1 52 6)).1 52 5)] (q_wI u12 1 12 (u12.1 52 6)) [q_id 116 11 1, q_id 116 9 52, q_id 116 11 1, q_id 116 11 1, q_id 116 9 52] (by decide +kernel) (by refine qt_aload_n (r := 1) rfl ?_; refine qt_aload_n (r := 1) rfl ?_; refine qt_getR (r := 52) rfl rfl rfl ?_; refine qt_getI rfl rfl ?_; refine qt_putI rfl ?_; refine qt_aload_n (r := 1) rfl ?_; refine qt_getR (r := 52) rfl rfl rfl ?_; refine qt_getI rfl rfl ?_; exact qt_z rfl rfl rfl rfl rfl) ⟨(q_id_of rfl), (q_id_of rfl), (q_id_of rfl), (q_id_of rfl), (q_id_of rfl)⟩ ?_
      exact s_retI .int (by decide +kernel) rfl rfl h
    · replace h := h.2 hc
      refine s_blk [(.aload_n 0, 1, 0, 0), (.getfield 10, 3, 11, 0)] 52 [some (.ref (1)), some (.int (x1))] [.ref (2)] u8 [q_id 116 11 1] (by decide +kernel) (by refine qt_aload_n (r := 1) rfl ?_; refine qt_getR (r := 2) rfl rfl rfl ?_; exact qt_z rfl rfl rfl rfl rfl) (q_id_of rfl) ?_
      refine s_callV (a := 0) (a' := 0) (As := []) (id := 2) (st := []) kX10_faultKind l_11_119 (by decide +kernel) (q_id_of rfl) rfl (Nat.le_of_ble_eq_true rfl) (s_mono h (s_I_of (fun v14 u15 h => ?_)) (fun _ _ h9 => h9))
      show s_Ex (d + 1) 0 mX11_work 55 [some (.ref (1)), some (.int (x1))] [.int (v14)] u15 Q X
      refine s_blk [(.bipush 10, 2, 0, 0), (.isub, 1, 0, 0)] 58 [some (.ref (1)), some (.int (x1))] [.int (v14 - 10)] u15 [] (by decide +kernel) (by refine qt_bipush qb_10 ?_; refine qt_isub ?_; exact qt_z rfl rfl rfl rfl rfl) trivial ?_
      exact s_retI .int (by decide +kernel) rfl rfl h
  · replace h := h.2 hc
    refine s_blk [(.bipush (-20), 2, 0, 0)] 22 [some (.ref (1)), some (.int (x1))] [.int (-20)] u4 [] (by decide +kernel) (by refine qt_bipush qb_m20 ?_; exact qt_z rfl rfl rfl rfl rfl) trivial ?_
    exact s_retI .int (by decide +kernel) rfl rfl h
theorem eX11_work {d : Nat} {x1 : Int32} {w : q_Sm} {Q : s_Po} {X : s_Xo} (h : vX11_work_0 d x1 w Q X) : s_Ev (d + 1) 1 mX11_work w [.ref (1), .int (x1)] Q X := s_of (by decide +kernel) rfl (Nat.le_of_ble_eq_true rfl) (xX11_work_0 h)
def vX11_book_0 (d : Nat) (x1 : Int32) (w : q_Sm) (Q : s_Po) (X : s_Xo) : Prop := s_EvV d 1 mX11_openText w [.ref (1), .int (x1), .int (100)] (fun u2 => q_id 116 1 (u2.2.2.2.2.2.2.2) ∧ s_EvV d 0 mX1_read u2 [.ref (u2.2.2.2.2.2.2.2), .ref (2)] (fun u4 => s_EvI d 0 mX10_failed u4 [.ref (2)] (fun v5 u6 => ((v5 = 0) → ∀ w_7 : q_Sm, w_7 = (u6.1, u6.2.1, u6.2.2.1, u6.2.2.2.1, u6.2.2.2.2.1, u6.2.2.2.2.2.1, u6.2.2.2.2.2.2.2, u6.2.2.2.2.2.2.2) → ∀ w_8 : q_Sm, w_8 = (w_7.1, w_7.2.1, w_7.2.2.1, w_7.2.2.2.1, w_7.2.2.2.2.1, w_7.2.2.2.2.2.1, w_7.2.2.2.2.2.2.1, u6.2.2.2.2.2.2.1) → (q_id 116 1 (w_8.2.2.2.2.2.2.1)) ∧ Q (some (.int (w_8.1 (w_8.2.2.2.2.2.2.1) 0))) w_8) ∧ (¬ (v5 = 0) → s_EvI d 0 mX10_faultKind u6 [.ref (2)] (fun v10 u11 => Q (some (.int (v10 - 10))) u11) X)) X) X) X
theorem xX11_book_0 {d : Nat} {x1 : Int32} {w : q_Sm} {Q : s_Po} {X : s_Xo} (h : vX11_book_0 d x1 w Q X) : s_Ex (d + 1) 1 mX11_book 0 [some (.ref (1)), some (.int (x1)), none] [] w Q X := by
  unfold vX11_book_0 at h
  refine s_blk [(.aload_n 0, 1, 0, 0), (.iload_n 1, 1, 0, 0), (.bipush 100, 2, 0, 0)] 4 [some (.ref (1)), some (.int (x1)), none] [.int (100), .int (x1), .ref (1)] w [] (by decide +kernel) (by refine qt_aload_n (r := 1) rfl ?_; refine qt_iload_n (x := x1) rfl ?_; refine qt_bipush qb_100 ?_; exact qt_z rfl rfl rfl rfl rfl) trivial ?_
  refine s_callV (a := 0) (a' := 1) (As := [.int (x1), .int (100)]) (id := 1) (st := []) kX11_openText l_11_107 (by decide +kernel) (q_id_of rfl) rfl (Nat.le_of_ble_eq_true rfl) (s_mono h (s_V_of (fun u2 h => ?_)) (fun _ _ h9 => h9))
  show s_Ex (d + 1) 0 mX11_book 7 [some (.ref (1)), some (.int (x1)), none] [] u2 Q X
  refine s_blk [(.aload_n 0, 1, 0, 0), (.getfield 43, 3, 11, 6), (.aload_n 0, 1, 0, 0), (.getfield 10, 3, 11, 0)] 15 [some (.ref (1)), some (.int (x1)), none] [.ref (2), .ref (u2.2.2.2.2.2.2.2)] u2 [q_id 116 11 1, q_id 116 11 1] (by decide +kernel) (by refine qt_aload_n (r := 1) rfl ?_; refine qt_getR (r := u2.2.2.2.2.2.2.2) rfl rfl rfl ?_; refine qt_aload_n (r := 1) rfl ?_; refine qt_getR (r := 2) rfl rfl rfl ?_; exact qt_z rfl rfl rfl rfl rfl) ⟨(q_id_of rfl), (q_id_of rfl)⟩ ?_
  obtain ⟨hid, h⟩ := h
  refine s_callV (a := 0) (a' := 0) (As := [.ref (2)]) (id := u2.2.2.2.2.2.2.2) (st := []) kX1_read l_11_151 (by decide +kernel) hid rfl (Nat.le_of_ble_eq_true rfl) (s_mono h (s_V_of (fun u4 h => ?_)) (fun _ _ h9 => h9))
  show s_Ex (d + 1) 0 mX11_book 18 [some (.ref (1)), some (.int (x1)), none] [] u4 Q X
  refine s_blk [(.aload_n 0, 1, 0, 0), (.getfield 10, 3, 11, 0)] 22 [some (.ref (1)), some (.int (x1)), none] [.ref (2)] u4 [q_id 116 11 1] (by decide +kernel) (by refine qt_aload_n (r := 1) rfl ?_; refine qt_getR (r := 2) rfl rfl rfl ?_; exact qt_z rfl rfl rfl rfl rfl) (q_id_of rfl) ?_
  refine s_callV (a := 0) (a' := 0) (As := []) (id := 2) (st := []) kX10_failed l_11_115 (by decide +kernel) (q_id_of rfl) rfl (Nat.le_of_ble_eq_true rfl) (s_mono h (s_I_of (fun v5 u6 h => ?_)) (fun _ _ h9 => h9))
  show s_Ex (d + 1) 0 mX11_book 25 [some (.ref (1)), some (.int (x1)), none] [.int (v5)] u6 Q X
  refine s_if (cd := .eq) (off := 14) 39 (by decide +kernel) (by decide) (fun hc => ?_) (fun hc => ?_)
  · replace h := h.1 hc
    replace h := h _ rfl
    replace h := h _ rfl
    obtain ⟨ho9, h⟩ := h
    refine s_blk [(.aload_n 0, 1, 0, 0), (.getfield 39, 3, 11, 5), (.astore_n 2, 1, 0, 0), (.aload_n 0, 1, 0, 0), (.aload_n 0, 1, 0, 0), (.getfield 43, 3, 11, 6), (.putfield 39, 3, 11, 5), (.aload_n 0, 1, 0, 0), (.aload_n 2, 1, 0, 0), (.putfield 43, 3, 11, 6), (.aload_n 0, 1, 0, 0), (.getfield 39, 3, 11, 5), (.getfield 152, 3, 1, 0)] 64 [some (.ref (1)), some (.int (x1)), some (.ref (u6.2.2.2.2.2.2.1))] [.int (((((u6.1, u6.2.1, u6.2.2.1, u6.2.2.2.1, u6.2.2.2.2.1, u6.2.2.2.2.2.1, u6.2.2.2.2.2.2.2, u6.2.2.2.2.2.2.2) : q_Sm).1, ((u6.1, u6.2.1, u6.2.2.1, u6.2.2.2.1, u6.2.2.2.2.1, u6.2.2.2.2.2.1, u6.2.2.2.2.2.2.2, u6.2.2.2.2.2.2.2) : q_Sm).2.1, ((u6.1, u6.2.1, u6.2.2.1, u6.2.2.2.1, u6.2.2.2.2.1, u6.2.2.2.2.2.1, u6.2.2.2.2.2.2.2, u6.2.2.2.2.2.2.2) : q_Sm).2.2.1, ((u6.1, u6.2.1, u6.2.2.1, u6.2.2.2.1, u6.2.2.2.2.1, u6.2.2.2.2.2.1, u6.2.2.2.2.2.2.2, u6.2.2.2.2.2.2.2) : q_Sm).2.2.2.1, ((u6.1, u6.2.1, u6.2.2.1, u6.2.2.2.1, u6.2.2.2.2.1, u6.2.2.2.2.2.1, u6.2.2.2.2.2.2.2, u6.2.2.2.2.2.2.2) : q_Sm).2.2.2.2.1, ((u6.1, u6.2.1, u6.2.2.1, u6.2.2.2.1, u6.2.2.2.2.1, u6.2.2.2.2.2.1, u6.2.2.2.2.2.2.2, u6.2.2.2.2.2.2.2) : q_Sm).2.2.2.2.2.1, ((u6.1, u6.2.1, u6.2.2.1, u6.2.2.2.1, u6.2.2.2.2.1, u6.2.2.2.2.2.1, u6.2.2.2.2.2.2.2, u6.2.2.2.2.2.2.2) : q_Sm).2.2.2.2.2.2.1, u6.2.2.2.2.2.2.1) : q_Sm).1 (((((u6.1, u6.2.1, u6.2.2.1, u6.2.2.2.1, u6.2.2.2.2.1, u6.2.2.2.2.2.1, u6.2.2.2.2.2.2.2, u6.2.2.2.2.2.2.2) : q_Sm).1, ((u6.1, u6.2.1, u6.2.2.1, u6.2.2.2.1, u6.2.2.2.2.1, u6.2.2.2.2.2.1, u6.2.2.2.2.2.2.2, u6.2.2.2.2.2.2.2) : q_Sm).2.1, ((u6.1, u6.2.1, u6.2.2.1, u6.2.2.2.1, u6.2.2.2.2.1, u6.2.2.2.2.2.1, u6.2.2.2.2.2.2.2, u6.2.2.2.2.2.2.2) : q_Sm).2.2.1, ((u6.1, u6.2.1, u6.2.2.1, u6.2.2.2.1, u6.2.2.2.2.1, u6.2.2.2.2.2.1, u6.2.2.2.2.2.2.2, u6.2.2.2.2.2.2.2) : q_Sm).2.2.2.1, ((u6.1, u6.2.1, u6.2.2.1, u6.2.2.2.1, u6.2.2.2.2.1, u6.2.2.2.2.2.1, u6.2.2.2.2.2.2.2, u6.2.2.2.2.2.2.2) : q_Sm).2.2.2.2.1, ((u6.1, u6.2.1, u6.2.2.1, u6.2.2.2.1, u6.2.2.2.2.1, u6.2.2.2.2.2.1, u6.2.2.2.2.2.2.2, u6.2.2.2.2.2.2.2) : q_Sm).2.2.2.2.2.1, ((u6.1, u6.2.1, u6.2.2.1, u6.2.2.2.1, u6.2.2.2.2.1, u6.2.2.2.2.2.1, u6.2.2.2.2.2.2.2, u6.2.2.2.2.2.2.2) : q_Sm).2.2.2.2.2.2.1, u6.2.2.2.2.2.2.1) : q_Sm).2.2.2.2.2.2.1) 0)] ((((u6.1, u6.2.1, u6.2.2.1, u6.2.2.2.1, u6.2.2.2.2.1, u6.2.2.2.2.2.1, u6.2.2.2.2.2.2.2, u6.2.2.2.2.2.2.2) : q_Sm).1, ((u6.1, u6.2.1, u6.2.2.1, u6.2.2.2.1, u6.2.2.2.2.1, u6.2.2.2.2.2.1, u6.2.2.2.2.2.2.2, u6.2.2.2.2.2.2.2) : q_Sm).2.1, ((u6.1, u6.2.1, u6.2.2.1, u6.2.2.2.1, u6.2.2.2.2.1, u6.2.2.2.2.2.1, u6.2.2.2.2.2.2.2, u6.2.2.2.2.2.2.2) : q_Sm).2.2.1, ((u6.1, u6.2.1, u6.2.2.1, u6.2.2.2.1, u6.2.2.2.2.1, u6.2.2.2.2.2.1, u6.2.2.2.2.2.2.2, u6.2.2.2.2.2.2.2) : q_Sm).2.2.2.1, ((u6.1, u6.2.1, u6.2.2.1, u6.2.2.2.1, u6.2.2.2.2.1, u6.2.2.2.2.2.1, u6.2.2.2.2.2.2.2, u6.2.2.2.2.2.2.2) : q_Sm).2.2.2.2.1, ((u6.1, u6.2.1, u6.2.2.1, u6.2.2.2.1, u6.2.2.2.2.1, u6.2.2.2.2.2.1, u6.2.2.2.2.2.2.2, u6.2.2.2.2.2.2.2) : q_Sm).2.2.2.2.2.1, ((u6.1, u6.2.1, u6.2.2.1, u6.2.2.2.1, u6.2.2.2.2.1, u6.2.2.2.2.2.1, u6.2.2.2.2.2.2.2, u6.2.2.2.2.2.2.2) : q_Sm).2.2.2.2.2.2.1, u6.2.2.2.2.2.2.1) : q_Sm) [q_id 116 11 1, q_id 116 11 1, q_id 116 11 1, q_id 116 11 1, q_id 116 11 1, q_id 116 1 (((((u6.1, u6.2.1, u6.2.2.1, u6.2.2.2.1, u6.2.2.2.2.1, u6.2.2.2.2.2.1, u6.2.2.2.2.2.2.2, u6.2.2.2.2.2.2.2) : q_Sm).1, ((u6.1, u6.2.1, u6.2.2.1, u6.2.2.2.1, u6.2.2.2.2.1, u6.2.2.2.2.2.1, u6.2.2.2.2.2.2.2, u6.2.2.2.2.2.2.2) : q_Sm).2.1, ((u6.1, u6.2.1, u6.2.2.1, u6.2.2.2.1, u6.2.2.2.2.1, u6.2.2.2.2.2.1, u6.2.2.2.2.2.2.2, u6.2.2.2.2.2.2.2) : q_Sm).2.2.1, ((u6.1, u6.2.1, u6.2.2.1, u6.2.2.2.1, u6.2.2.2.2.1, u6.2.2.2.2.2.1, u6.2.2.2.2.2.2.2, u6.2.2.2.2.2.2.2) : q_Sm).2.2.2.1, ((u6.1, u6.2.1, u6.2.2.1, u6.2.2.2.1, u6.2.2.2.2.1, u6.2.2.2.2.2.1, u6.2.2.2.2.2.2.2, u6.2.2.2.2.2.2.2) : q_Sm).2.2.2.2.1, ((u6.1, u6.2.1, u6.2.2.1, u6.2.2.2.1, u6.2.2.2.2.1, u6.2.2.2.2.2.1, u6.2.2.2.2.2.2.2, u6.2.2.2.2.2.2.2) : q_Sm).2.2.2.2.2.1, ((u6.1, u6.2.1, u6.2.2.1, u6.2.2.2.1, u6.2.2.2.2.1, u6.2.2.2.2.2.1, u6.2.2.2.2.2.2.2, u6.2.2.2.2.2.2.2) : q_Sm).2.2.2.2.2.2.1, u6.2.2.2.2.2.2.1) : q_Sm).2.2.2.2.2.2.1)] (by decide +kernel) (by refine qt_aload_n (r := 1) rfl ?_; refine qt_getR (r := u6.2.2.2.2.2.2.1) rfl rfl rfl ?_; refine qt_astore_n (L' := [some (.ref (1)), some (.int (x1)), some (.ref (u6.2.2.2.2.2.2.1))]) rfl ?_; refine qt_aload_n (r := 1) rfl ?_; refine qt_aload_n (r := 1) rfl ?_; refine qt_getR (r := u6.2.2.2.2.2.2.2) rfl rfl rfl ?_; refine qt_putR rfl (qR_5 _ _) ?_; refine qt_aload_n (r := 1) rfl ?_; refine qt_aload_n (r := u6.2.2.2.2.2.2.1) rfl ?_; refine qt_putR rfl (qR_6 _ _) ?_; refine qt_aload_n (r := 1) rfl ?_; refine qt_getR (r := ((((u6.1, u6.2.1, u6.2.2.1, u6.2.2.2.1, u6.2.2.2.2.1, u6.2.2.2.2.2.1, u6.2.2.2.2.2.2.2, u6.2.2.2.2.2.2.2) : q_Sm).1, ((u6.1, u6.2.1, u6.2.2.1, u6.2.2.2.1, u6.2.2.2.2.1, u6.2.2.2.2.2.1, u6.2.2.2.2.2.2.2, u6.2.2.2.2.2.2.2) : q_Sm).2.1, ((u6.1, u6.2.1, u6.2.2.1, u6.2.2.2.1, u6.2.2.2.2.1, u6.2.2.2.2.2.1, u6.2.2.2.2.2.2.2, u6.2.2.2.2.2.2.2) : q_Sm).2.2.1, ((u6.1, u6.2.1, u6.2.2.1, u6.2.2.2.1, u6.2.2.2.2.1, u6.2.2.2.2.2.1, u6.2.2.2.2.2.2.2, u6.2.2.2.2.2.2.2) : q_Sm).2.2.2.1, ((u6.1, u6.2.1, u6.2.2.1, u6.2.2.2.1, u6.2.2.2.2.1, u6.2.2.2.2.2.1, u6.2.2.2.2.2.2.2, u6.2.2.2.2.2.2.2) : q_Sm).2.2.2.2.1, ((u6.1, u6.2.1, u6.2.2.1, u6.2.2.2.1, u6.2.2.2.2.1, u6.2.2.2.2.2.1, u6.2.2.2.2.2.2.2, u6.2.2.2.2.2.2.2) : q_Sm).2.2.2.2.2.1, ((u6.1, u6.2.1, u6.2.2.1, u6.2.2.2.1, u6.2.2.2.2.1, u6.2.2.2.2.2.1, u6.2.2.2.2.2.2.2, u6.2.2.2.2.2.2.2) : q_Sm).2.2.2.2.2.2.1, u6.2.2.2.2.2.2.1) : q_Sm).2.2.2.2.2.2.1) rfl rfl rfl ?_; refine qt_getI rfl rfl ?_; exact qt_z rfl rfl rfl rfl rfl) ⟨(q_id_of rfl), (q_id_of rfl), (q_id_of rfl), (q_id_of rfl), (q_id_of rfl), ho9⟩ ?_
    exact s_retI .int (by decide +kernel) rfl rfl h
  · replace h := h.2 hc
    refine s_blk [(.aload_n 0, 1, 0, 0), (.getfield 10, 3, 11, 0)] 32 [some (.ref (1)), some (.int (x1)), none] [.ref (2)] u6 [q_id 116 11 1] (by decide +kernel) (by refine qt_aload_n (r := 1) rfl ?_; refine qt_getR (r := 2) rfl rfl rfl ?_; exact qt_z rfl rfl rfl rfl rfl) (q_id_of rfl) ?_
    refine s_callV (a := 0) (a' := 0) (As := []) (id := 2) (st := []) kX10_faultKind l_11_119 (by decide +kernel) (q_id_of rfl) rfl (Nat.le_of_ble_eq_true rfl) (s_mono h (s_I_of (fun v10 u11 h => ?_)) (fun _ _ h9 => h9))
    show s_Ex (d + 1) 0 mX11_book 35 [some (.ref (1)), some (.int (x1)), none] [.int (v10)] u11 Q X
    refine s_blk [(.bipush 10, 2, 0, 0), (.isub, 1, 0, 0)] 38 [some (.ref (1)), some (.int (x1)), none] [.int (v10 - 10)] u11 [] (by decide +kernel) (by refine qt_bipush qb_10 ?_; refine qt_isub ?_; exact qt_z rfl rfl rfl rfl rfl) trivial ?_
    exact s_retI .int (by decide +kernel) rfl rfl h
theorem eX11_book {d : Nat} {x1 : Int32} {w : q_Sm} {Q : s_Po} {X : s_Xo} (h : vX11_book_0 d x1 w Q X) : s_Ev (d + 1) 1 mX11_book w [.ref (1), .int (x1)] Q X := s_of (by decide +kernel) rfl (Nat.le_of_ble_eq_true rfl) (xX11_book_0 h)
def vX11_fault_0 (d : Nat)  (w : q_Sm) (Q : s_Po) (X : s_Xo) : Prop := s_EvI d 0 mX10_faultPlace w [.ref (2)] (fun v1 u2 => Q (some (.int (v1))) u2) X
theorem xX11_fault_0 {d : Nat}  {w : q_Sm} {Q : s_Po} {X : s_Xo} (h : vX11_fault_0 d  w Q X) : s_Ex (d + 1) 0 mX11_fault 0 [some (.ref (1))] [] w Q X := by
  unfold vX11_fault_0 at h
  refine s_blk [(.aload_n 0, 1, 0, 0), (.getfield 10, 3, 11, 0)] 4 [some (.ref (1))] [.ref (2)] w [q_id 116 11 1] (by decide +kernel) (by refine qt_aload_n (r := 1) rfl ?_; refine qt_getR (r := 2) rfl rfl rfl ?_; exact qt_z rfl rfl rfl rfl rfl) (q_id_of rfl) ?_
  refine s_callV (a := 0) (a' := 0) (As := []) (id := 2) (st := []) kX10_faultPlace l_11_155 (by decide +kernel) (q_id_of rfl) rfl (Nat.le_of_ble_eq_true rfl) (s_mono h (s_I_of (fun v1 u2 h => ?_)) (fun _ _ h9 => h9))
  show s_Ex (d + 1) 0 mX11_fault 7 [some (.ref (1))] [.int (v1)] u2 Q X
  exact s_retI .int (by decide +kernel) rfl rfl h
theorem eX11_fault {d : Nat}  {w : q_Sm} {Q : s_Po} {X : s_Xo} (h : vX11_fault_0 d  w Q X) : s_Ev (d + 1) 0 mX11_fault w [.ref (1)] Q X := s_of (by decide +kernel) rfl (Nat.le_of_ble_eq_true rfl) (xX11_fault_0 h)
def vX11_undo_0 (d : Nat)  (w : q_Sm) (Q : s_Po) (X : s_Xo) : Prop := s_EvI d 0 mX8_size w [.ref (58)] (fun v1 u2 => ((¬ v1 = 0) → s_EvV d 0 mX8_pop u2 [.ref (58), .ref (56)] (fun u4 => ∀ w_5 : q_Sm, w_5 = q_wI u4 1 12 0 → s_EvI d 0 mX8_size w_5 [.ref (58)] (fun v6 u7 => Q (some (.int (v6))) u7) X) X) ∧ (¬ (¬ v1 = 0) → Q (some (.int (-1))) u2)) X
theorem xX11_undo_0 {d : Nat}  {w : q_Sm} {Q : s_Po} {X : s_Xo} (h : vX11_undo_0 d  w Q X) : s_Ex (d + 1) 0 mX11_undo 0 [some (.ref (1))] [] w Q X := by
  unfold vX11_undo_0 at h
  refine s_blk [(.aload_n 0, 1, 0, 0), (.getfield 63, 3, 11, 9)] 4 [some (.ref (1))] [.ref (58)] w [q_id 116 11 1] (by decide +kernel) (by refine qt_aload_n (r := 1) rfl ?_; refine qt_getR (r := 58) rfl rfl rfl ?_; exact qt_z rfl rfl rfl rfl rfl) (q_id_of rfl) ?_
  refine s_callV (a := 0) (a' := 0) (As := []) (id := 58) (st := []) kX8_size l_11_130 (by decide +kernel) (q_id_of rfl) rfl (Nat.le_of_ble_eq_true rfl) (s_mono h (s_I_of (fun v1 u2 h => ?_)) (fun _ _ h9 => h9))
  show s_Ex (d + 1) 0 mX11_undo 7 [some (.ref (1))] [.int (v1)] u2 Q X
  refine s_if (cd := .ne) (off := 5) 12 (by decide +kernel) (by decide) (fun hc => ?_) (fun hc => ?_)
  · replace h := h.1 hc
    refine s_blk [(.aload_n 0, 1, 0, 0), (.getfield 63, 3, 11, 9), (.aload_n 0, 1, 0, 0), (.getfield 56, 3, 11, 8)] 20 [some (.ref (1))] [.ref (56), .ref (58)] u2 [q_id 116 11 1, q_id 116 11 1] (by decide +kernel) (by refine qt_aload_n (r := 1) rfl ?_; refine qt_getR (r := 58) rfl rfl rfl ?_; refine qt_aload_n (r := 1) rfl ?_; refine qt_getR (r := 56) rfl rfl rfl ?_; exact qt_z rfl rfl rfl rfl rfl) ⟨(q_id_of rfl), (q_id_of rfl)⟩ ?_
    refine s_callV (a := 0) (a' := 0) (As := [.ref (56)]) (id := 58) (st := []) kX8_pop l_11_158 (by decide +kernel) (q_id_of rfl) rfl (Nat.le_of_ble_eq_true rfl) (s_mono h (s_V_of (fun u4 h => ?_)) (fun _ _ h9 => h9))
    show s_Ex (d + 1) 0 mX11_undo 23 [some (.ref (1))] [] u4 Q X
    replace h := h _ rfl
    refine s_blk [(.aload_n 0, 1, 0, 0), (.iconst 0, 1, 0, 0), (.putfield 145, 3, 11, 12), (.aload_n 0, 1, 0, 0), (.getfield 63, 3, 11, 9)] 32 [some (.ref (1))] [.ref (58)] (q_wI u4 1 12 0) [q_id 116 11 1, q_id 116 11 1] (by decide +kernel) (by refine qt_aload_n (r := 1) rfl ?_; refine qt_iconst qc_0 ?_; refine qt_putI rfl ?_; refine qt_aload_n (r := 1) rfl ?_; refine qt_getR (r := 58) rfl rfl rfl ?_; exact qt_z rfl rfl rfl rfl rfl) ⟨(q_id_of rfl), (q_id_of rfl)⟩ ?_
    refine s_callV (a := 0) (a' := 0) (As := []) (id := 58) (st := []) kX8_size l_11_130 (by decide +kernel) (q_id_of rfl) rfl (Nat.le_of_ble_eq_true rfl) (s_mono h (s_I_of (fun v6 u7 h => ?_)) (fun _ _ h9 => h9))
    show s_Ex (d + 1) 0 mX11_undo 35 [some (.ref (1))] [.int (v6)] u7 Q X
    exact s_retI .int (by decide +kernel) rfl rfl h
  · replace h := h.2 hc
    refine s_blk [(.iconst (-1), 1, 0, 0)] 11 [some (.ref (1))] [.int (-1)] u2 [] (by decide +kernel) (by refine qt_iconst qc_m1 ?_; exact qt_z rfl rfl rfl rfl rfl) trivial ?_
    exact s_retI .int (by decide +kernel) rfl rfl h
theorem eX11_undo {d : Nat}  {w : q_Sm} {Q : s_Po} {X : s_Xo} (h : vX11_undo_0 d  w Q X) : s_Ev (d + 1) 0 mX11_undo w [.ref (1)] Q X := s_of (by decide +kernel) rfl (Nat.le_of_ble_eq_true rfl) (xX11_undo_0 h)
def vX11_told_0 (d : Nat) (x1 : Int32) (w : q_Sm) (Q : s_Po) (X : s_Xo) : Prop := s_EvI d 0 mX11_isIn w [.int (x1), .int (0), .int (8)] (fun v1 u2 => s_EvV d 1 mX11_require u2 [.ref (1), .int (v1)] (fun u4 => (((Int32.toInt x1) < 0 ∨ 7 < (Int32.toInt x1)) → Q (some (.int (u4.1 1 12))) u4) ∧ ((Int32.toInt x1) = 0 → (q_id 116 2 (u4.2.2.1)) ∧ Q (some (.int (u4.1 (u4.2.2.1) 0))) u4) ∧ ((Int32.toInt x1) = 1 → (q_id 116 2 (u4.2.2.1)) ∧ Q (some (.int (u4.1 (u4.2.2.1) 3))) u4) ∧ ((Int32.toInt x1) = 2 → (q_id 116 2 (u4.2.2.1)) ∧ Q (some (.int (u4.1 (u4.2.2.1) 10))) u4) ∧ ((Int32.toInt x1) = 3 → (q_id 116 2 (u4.2.2.1)) ∧ Q (some (.int (u4.1 (u4.2.2.1) 14))) u4) ∧ ((Int32.toInt x1) = 4 → s_EvI d 0 mX6_today u4 [.ref (56)] (fun v9 u10 => Q (some (.int (v9))) u10) X) ∧ ((Int32.toInt x1) = 5 → s_EvI d 0 mX6_owedInAll u4 [.ref (56), .ref (u4.2.2.1)] (fun v11 u12 => Q (some (.int (v11))) u12) X) ∧ ((Int32.toInt x1) = 6 → s_EvI d 0 mX6_inDefault u4 [.ref (56), .ref (u4.2.2.1)] (fun v13 u14 => Q (some (.int (v13))) u14) X) ∧ ((Int32.toInt x1) = 7 → (q_id 116 1 (u4.2.2.2.2.2.2.1)) ∧ Q (some (.int (u4.1 (u4.2.2.2.2.2.2.1) 0))) u4)) X) X
theorem xX11_told_0 {d : Nat} {x1 : Int32} {w : q_Sm} {Q : s_Po} {X : s_Xo} (h : vX11_told_0 d x1 w Q X) : s_Ex (d + 1) 1 mX11_told 0 [some (.ref (1)), some (.int (x1))] [] w Q X := by
  unfold vX11_told_0 at h
  refine s_blk [(.aload_n 0, 1, 0, 0), (.iload_n 1, 1, 0, 0), (.iconst 0, 1, 0, 0), (.bipush 8, 2, 0, 0)] 5 [some (.ref (1)), some (.int (x1))] [.int (8), .int (0), .int (x1), .ref (1)] w [] (by decide +kernel) (by refine qt_aload_n (r := 1) rfl ?_; refine qt_iload_n (x := x1) rfl ?_; refine qt_iconst qc_0 ?_; refine qt_bipush qb_8 ?_; exact qt_z rfl rfl rfl rfl rfl) trivial ?_
  refine s_callS (a := 1) (a' := 0) (As := [.int (x1), .int (0), .int (8)]) (st := [.ref (1)]) kX11_isIn l_11_161 (by decide +kernel) rfl (Nat.le_of_ble_eq_true rfl) (s_mono h (s_I_of (fun v1 u2 h => ?_)) (fun _ _ h9 => h9))
  show s_Ex (d + 1) 1 mX11_told 8 [some (.ref (1)), some (.int (x1))] [.int (v1), .ref (1)] u2 Q X
  refine s_callV (a := 0) (a' := 1) (As := [.int (v1)]) (id := 1) (st := []) kX11_require l_11_165 (by decide +kernel) (q_id_of rfl) rfl (Nat.le_of_ble_eq_true rfl) (s_mono h (s_V_of (fun u4 h => ?_)) (fun _ _ h9 => h9))
  show s_Ex (d + 1) 0 mX11_told 11 [some (.ref (1)), some (.int (x1))] [] u4 Q X
  refine s_blk [(.iload_n 1, 1, 0, 0)] 12 [some (.ref (1)), some (.int (x1))] [.int (x1)] u4 [] (by decide +kernel) (by refine qt_iload_n (x := x1) rfl ?_; exact qt_z rfl rfl rfl rfl rfl) trivial ?_
  refine s_tsw (dflt := 120) (lo := 0) (hi := 7) (offs := #[48, 56, 64, 72, 80, 88, 100, 112]) (len := 48) 132 [60, 68, 76, 84, 92, 100, 112, 124] (by decide +kernel) (by decide) (by decide) (by decide) (fun hc => ?_) (fun j q hj hx => ?_)
  · replace h := h.1 hc
    refine s_blk [(.aload_n 0, 1, 0, 0), (.getfield 145, 3, 11, 12)] 136 [some (.ref (1)), some (.int (x1))] [.int (u4.1 1 12)] u4 [q_id 116 11 1] (by decide +kernel) (by refine qt_aload_n (r := 1) rfl ?_; refine qt_getI rfl rfl ?_; exact qt_z rfl rfl rfl rfl rfl) (q_id_of rfl) ?_
    exact s_retI .int (by decide +kernel) rfl rfl h
  · rcases j with _ | _ | _ | _ | _ | _ | _ | _ | j
    · cases hj
      replace h := h.2.1 (by omega)
      obtain ⟨ho5, h⟩ := h
      refine s_blk [(.aload_n 0, 1, 0, 0), (.getfield 19, 3, 11, 1), (.getfield 169, 3, 2, 0)] 67 [some (.ref (1)), some (.int (x1))] [.int (u4.1 (u4.2.2.1) 0)] u4 [q_id 116 11 1, q_id 116 2 (u4.2.2.1)] (by decide +kernel) (by refine qt_aload_n (r := 1) rfl ?_; refine qt_getR (r := u4.2.2.1) rfl rfl rfl ?_; refine qt_getI rfl rfl ?_; exact qt_z rfl rfl rfl rfl rfl) ⟨(q_id_of rfl), ho5⟩ ?_
      exact s_retI .int (by decide +kernel) rfl rfl h
    · cases hj
      replace h := h.2.2.1 (by omega)
      obtain ⟨ho6, h⟩ := h
      refine s_blk [(.aload_n 0, 1, 0, 0), (.getfield 19, 3, 11, 1), (.getfield 125, 3, 2, 3)] 75 [some (.ref (1)), some (.int (x1))] [.int (u4.1 (u4.2.2.1) 3)] u4 [q_id 116 11 1, q_id 116 2 (u4.2.2.1)] (by decide +kernel) (by refine qt_aload_n (r := 1) rfl ?_; refine qt_getR (r := u4.2.2.1) rfl rfl rfl ?_; refine qt_getI rfl rfl ?_; exact qt_z rfl rfl rfl rfl rfl) ⟨(q_id_of rfl), ho6⟩ ?_
      exact s_retI .int (by decide +kernel) rfl rfl h
    · cases hj
      replace h := h.2.2.2.1 (by omega)
      obtain ⟨ho7, h⟩ := h
      refine s_blk [(.aload_n 0, 1, 0, 0), (.getfield 19, 3, 11, 1), (.getfield 172, 3, 2, 10)] 83 [some (.ref (1)), some (.int (x1))] [.int (u4.1 (u4.2.2.1) 10)] u4 [q_id 116 11 1, q_id 116 2 (u4.2.2.1)] (by decide +kernel) (by refine qt_aload_n (r := 1) rfl ?_; refine qt_getR (r := u4.2.2.1) rfl rfl rfl ?_; refine qt_getI rfl rfl ?_; exact qt_z rfl rfl rfl rfl rfl) ⟨(q_id_of rfl), ho7⟩ ?_
      exact s_retI .int (by decide +kernel) rfl rfl h
    · cases hj
      replace h := h.2.2.2.2.1 (by omega)
      obtain ⟨ho8, h⟩ := h
      refine s_blk [(.aload_n 0, 1, 0, 0), (.getfield 19, 3, 11, 1), (.getfield 175, 3, 2, 14)] 91 [some (.ref (1)), some (.int (x1))] [.int (u4.1 (u4.2.2.1) 14)] u4 [q_id 116 11 1, q_id 116 2 (u4.2.2.1)] (by decide +kernel) (by refine qt_aload_n (r := 1) rfl ?_; refine qt_getR (r := u4.2.2.1) rfl rfl rfl ?_; refine qt_getI rfl rfl ?_; exact qt_z rfl rfl rfl rfl rfl) ⟨(q_id_of rfl), ho8⟩ ?_
      exact s_retI .int (by decide +kernel) rfl rfl h
    · cases hj
      replace h := h.2.2.2.2.2.1 (by omega)
      refine s_blk [(.aload_n 0, 1, 0, 0), (.getfield 56, 3, 11, 8)] 96 [some (.ref (1)), some (.int (x1))] [.ref (56)] u4 [q_id 116 11 1] (by decide +kernel) (by refine qt_aload_n (r := 1) rfl ?_; refine qt_getR (r := 56) rfl rfl rfl ?_; exact qt_z rfl rfl rfl rfl rfl) (q_id_of rfl) ?_
      refine s_callV (a := 0) (a' := 0) (As := []) (id := 56) (st := []) kX6_today l_11_178 (by decide +kernel) (q_id_of rfl) rfl (Nat.le_of_ble_eq_true rfl) (s_mono h (s_I_of (fun v9 u10 h => ?_)) (fun _ _ h9 => h9))
      show s_Ex (d + 1) 0 mX11_told 99 [some (.ref (1)), some (.int (x1))] [.int (v9)] u10 Q X
      exact s_retI .int (by decide +kernel) rfl rfl h
    · cases hj
      replace h := h.2.2.2.2.2.2.1 (by omega)
      refine s_blk [(.aload_n 0, 1, 0, 0), (.getfield 56, 3, 11, 8), (.aload_n 0, 1, 0, 0), (.getfield 19, 3, 11, 1)] 108 [some (.ref (1)), some (.int (x1))] [.ref (u4.2.2.1), .ref (56)] u4 [q_id 116 11 1, q_id 116 11 1] (by decide +kernel) (by refine qt_aload_n (r := 1) rfl ?_; refine qt_getR (r := 56) rfl rfl rfl ?_; refine qt_aload_n (r := 1) rfl ?_; refine qt_getR (r := u4.2.2.1) rfl rfl rfl ?_; exact qt_z rfl rfl rfl rfl rfl) ⟨(q_id_of rfl), (q_id_of rfl)⟩ ?_
      refine s_callV (a := 0) (a' := 0) (As := [.ref (u4.2.2.1)]) (id := 56) (st := []) kX6_owedInAll l_11_181 (by decide +kernel) (q_id_of rfl) rfl (Nat.le_of_ble_eq_true rfl) (s_mono h (s_I_of (fun v11 u12 h => ?_)) (fun _ _ h9 => h9))
      show s_Ex (d + 1) 0 mX11_told 111 [some (.ref (1)), some (.int (x1))] [.int (v11)] u12 Q X
      exact s_retI .int (by decide +kernel) rfl rfl h
    · cases hj
      replace h := h.2.2.2.2.2.2.2.1 (by omega)
      refine s_blk [(.aload_n 0, 1, 0, 0), (.getfield 56, 3, 11, 8), (.aload_n 0, 1, 0, 0), (.getfield 19, 3, 11, 1)] 120 [some (.ref (1)), some (.int (x1))] [.ref (u4.2.2.1), .ref (56)] u4 [q_id 116 11 1, q_id 116 11 1] (by decide +kernel) (by refine qt_aload_n (r := 1) rfl ?_; refine qt_getR (r := 56) rfl rfl rfl ?_; refine qt_aload_n (r := 1) rfl ?_; refine qt_getR (r := u4.2.2.1) rfl rfl rfl ?_; exact qt_z rfl rfl rfl rfl rfl) ⟨(q_id_of rfl), (q_id_of rfl)⟩ ?_
      refine s_callV (a := 0) (a' := 0) (As := [.ref (u4.2.2.1)]) (id := 56) (st := []) kX6_inDefault l_11_185 (by decide +kernel) (q_id_of rfl) rfl (Nat.le_of_ble_eq_true rfl) (s_mono h (s_I_of (fun v13 u14 h => ?_)) (fun _ _ h9 => h9))
      show s_Ex (d + 1) 0 mX11_told 123 [some (.ref (1)), some (.int (x1))] [.int (v13)] u14 Q X
      exact s_retI .int (by decide +kernel) rfl rfl h
    · cases hj
      replace h := h.2.2.2.2.2.2.2.2 (by omega)
      obtain ⟨ho15, h⟩ := h
      refine s_blk [(.aload_n 0, 1, 0, 0), (.getfield 39, 3, 11, 5), (.getfield 152, 3, 1, 0)] 131 [some (.ref (1)), some (.int (x1))] [.int (u4.1 (u4.2.2.2.2.2.2.1) 0)] u4 [q_id 116 11 1, q_id 116 1 (u4.2.2.2.2.2.2.1)] (by decide +kernel) (by refine qt_aload_n (r := 1) rfl ?_; refine qt_getR (r := u4.2.2.2.2.2.2.1) rfl rfl rfl ?_; refine qt_getI rfl rfl ?_; exact qt_z rfl rfl rfl rfl rfl) ⟨(q_id_of rfl), ho15⟩ ?_
      exact s_retI .int (by decide +kernel) rfl rfl h
    · simp at hj
theorem eX11_told {d : Nat} {x1 : Int32} {w : q_Sm} {Q : s_Po} {X : s_Xo} (h : vX11_told_0 d x1 w Q X) : s_Ev (d + 1) 1 mX11_told w [.ref (1), .int (x1)] Q X := s_of (by decide +kernel) rfl (Nat.le_of_ble_eq_true rfl) (xX11_told_0 h)
def vX11_creditor_0 (d : Nat) (x1 : Int32) (x2 : Int32) (w : q_Sm) (Q : s_Po) (X : s_Xo) : Prop := s_EvV d 1 mX11_requireCreditor w [.ref (1), .int (x1)] (fun u2 => s_EvI d 0 mX11_isIn u2 [.int (x2), .int (0), .int (3)] (fun v3 u4 => s_EvV d 1 mX11_require u4 [.ref (1), .int (v3)] (fun u6 => (((Int32.toInt x2) < 0 ∨ 2 < (Int32.toInt x2)) → s_EvI d 0 mX6_owedTo u6 [.ref (56), .ref (u6.2.2.1), .int (x1)] (fun v15 u16 => Q (some (.int (v15))) u16) X) ∧ ((Int32.toInt x2) = 0 → (q_id 116 2 (u6.2.2.1)) ∧ (q_id 116 14 ((u6.2.2.1) + 1)) ∧ (vp_in x1 (q_sh ((u6.2.2.1) + 1)).2) ∧ Q (some (.int (u6.1 ((u6.2.2.1) + 1) (Int32.toNatClampNeg x1)))) u6) ∧ ((Int32.toInt x2) = 1 → (q_id 116 2 (u6.2.2.1)) ∧ (q_id 116 14 ((u6.2.2.1) + 2)) ∧ (vp_in x1 (q_sh ((u6.2.2.1) + 2)).2) ∧ Q (some (.int (u6.1 ((u6.2.2.1) + 2) (Int32.toNatClampNeg x1)))) u6) ∧ ((Int32.toInt x2) = 2 → s_EvI d 0 mX6_debtsTo u6 [.ref (56), .ref (u6.2.2.1), .int (x1)] (fun v13 u14 => Q (some (.int (v13))) u14) X)) X) X) X
theorem xX11_creditor_0 {d : Nat} {x1 : Int32} {x2 : Int32} {w : q_Sm} {Q : s_Po} {X : s_Xo} (h : vX11_creditor_0 d x1 x2 w Q X) : s_Ex (d + 1) 2 mX11_creditor 0 [some (.ref (1)), some (.int (x1)), some (.int (x2))] [] w Q X := by
  unfold vX11_creditor_0 at h
  refine s_blk [(.aload_n 0, 1, 0, 0), (.iload_n 1, 1, 0, 0)] 2 [some (.ref (1)), some (.int (x1)), some (.int (x2))] [.int (x1), .ref (1)] w [] (by decide +kernel) (by refine qt_aload_n (r := 1) rfl ?_; refine qt_iload_n (x := x1) rfl ?_; exact qt_z rfl rfl rfl rfl rfl) trivial ?_
  refine s_callV (a := 1) (a' := 1) (As := [.int (x1)]) (id := 1) (st := []) kX11_requireCreditor l_11_188 (by decide +kernel) (q_id_of rfl) rfl (Nat.le_of_ble_eq_true rfl) (s_mono h (s_V_of (fun u2 h => ?_)) (fun _ _ h9 => h9))
  show s_Ex (d + 1) 1 mX11_creditor 5 [some (.ref (1)), some (.int (x1)), some (.int (x2))] [] u2 Q X
  refine s_blk [(.aload_n 0, 1, 0, 0), (.iload_n 2, 1, 0, 0), (.iconst 0, 1, 0, 0), (.iconst 3, 1, 0, 0)] 9 [some (.ref (1)), some (.int (x1)), some (.int (x2))] [.int (3), .int (0), .int (x2), .ref (1)] u2 [] (by decide +kernel) (by refine qt_aload_n (r := 1) rfl ?_; refine qt_iload_n (x := x2) rfl ?_; refine qt_iconst qc_0 ?_; refine qt_iconst qc_3 ?_; exact qt_z rfl rfl rfl rfl rfl) trivial ?_
  refine s_callS (a := 1) (a' := 0) (As := [.int (x2), .int (0), .int (3)]) (st := [.ref (1)]) kX11_isIn l_11_161 (by decide +kernel) rfl (Nat.le_of_ble_eq_true rfl) (s_mono h (s_I_of (fun v3 u4 h => ?_)) (fun _ _ h9 => h9))
  show s_Ex (d + 1) 1 mX11_creditor 12 [some (.ref (1)), some (.int (x1)), some (.int (x2))] [.int (v3), .ref (1)] u4 Q X
  refine s_callV (a := 0) (a' := 1) (As := [.int (v3)]) (id := 1) (st := []) kX11_require l_11_165 (by decide +kernel) (q_id_of rfl) rfl (Nat.le_of_ble_eq_true rfl) (s_mono h (s_V_of (fun u6 h => ?_)) (fun _ _ h9 => h9))
  show s_Ex (d + 1) 0 mX11_creditor 15 [some (.ref (1)), some (.int (x1)), some (.int (x2))] [] u6 Q X
  refine s_blk [(.iload_n 2, 1, 0, 0)] 16 [some (.ref (1)), some (.int (x1)), some (.int (x2))] [.int (x2)] u6 [] (by decide +kernel) (by refine qt_iload_n (x := x2) rfl ?_; exact qt_z rfl rfl rfl rfl rfl) trivial ?_
  refine s_tsw (dflt := 61) (lo := 0) (hi := 2) (offs := #[28, 38, 48]) (len := 28) 77 [44, 54, 64] (by decide +kernel) (by decide) (by decide) (by decide) (fun hc => ?_) (fun j q hj hx => ?_)
  · replace h := h.1 hc
    refine s_blk [(.aload_n 0, 1, 0, 0), (.getfield 56, 3, 11, 8), (.aload_n 0, 1, 0, 0), (.getfield 19, 3, 11, 1), (.iload_n 1, 1, 0, 0)] 86 [some (.ref (1)), some (.int (x1)), some (.int (x2))] [.int (x1), .ref (u6.2.2.1), .ref (56)] u6 [q_id 116 11 1, q_id 116 11 1] (by decide +kernel) (by refine qt_aload_n (r := 1) rfl ?_; refine qt_getR (r := 56) rfl rfl rfl ?_; refine qt_aload_n (r := 1) rfl ?_; refine qt_getR (r := u6.2.2.1) rfl rfl rfl ?_; refine qt_iload_n (x := x1) rfl ?_; exact qt_z rfl rfl rfl rfl rfl) ⟨(q_id_of rfl), (q_id_of rfl)⟩ ?_
    refine s_callV (a := 0) (a' := 0) (As := [.ref (u6.2.2.1), .int (x1)]) (id := 56) (st := []) kX6_owedTo l_11_202 (by decide +kernel) (q_id_of rfl) rfl (Nat.le_of_ble_eq_true rfl) (s_mono h (s_I_of (fun v15 u16 h => ?_)) (fun _ _ h9 => h9))
    show s_Ex (d + 1) 0 mX11_creditor 89 [some (.ref (1)), some (.int (x1)), some (.int (x2))] [.int (v15)] u16 Q X
    exact s_retI .int (by decide +kernel) rfl rfl h
  · rcases j with _ | _ | _ | j
    · cases hj
      replace h := h.2.1 (by omega)
      obtain ⟨ho7, h⟩ := h
      obtain ⟨ho8, h⟩ := h
      obtain ⟨ho9, h⟩ := h
      refine s_blk [(.aload_n 0, 1, 0, 0), (.getfield 19, 3, 11, 1), (.getfield 191, 3, 2, 1), (.iload_n 1, 1, 0, 0), (.iaload, 1, 0, 0)] 53 [some (.ref (1)), some (.int (x1)), some (.int (x2))] [.int (u6.1 ((u6.2.2.1) + 1) (Int32.toNatClampNeg x1))] u6 [q_id 116 11 1, q_id 116 2 (u6.2.2.1), q_id 116 14 ((u6.2.2.1) + 1), vp_in x1 (q_sh ((u6.2.2.1) + 1)).2] (by decide +kernel) (by refine qt_aload_n (r := 1) rfl ?_; refine qt_getR (r := u6.2.2.1) rfl rfl rfl ?_; refine qt_getR (r := (u6.2.2.1) + 1) rfl rfl rfl ?_; refine qt_iload_n (x := x1) rfl ?_; refine qt_iald ?_; exact qt_z rfl rfl rfl rfl rfl) ⟨(q_id_of rfl), ho7, ho8, ho9⟩ ?_
      exact s_retI .int (by decide +kernel) rfl rfl h
    · cases hj
      replace h := h.2.2.1 (by omega)
      obtain ⟨ho10, h⟩ := h
      obtain ⟨ho11, h⟩ := h
      obtain ⟨ho12, h⟩ := h
      refine s_blk [(.aload_n 0, 1, 0, 0), (.getfield 19, 3, 11, 1), (.getfield 195, 3, 2, 2), (.iload_n 1, 1, 0, 0), (.iaload, 1, 0, 0)] 63 [some (.ref (1)), some (.int (x1)), some (.int (x2))] [.int (u6.1 ((u6.2.2.1) + 2) (Int32.toNatClampNeg x1))] u6 [q_id 116 11 1, q_id 116 2 (u6.2.2.1), q_id 116 14 ((u6.2.2.1) + 2), vp_in x1 (q_sh ((u6.2.2.1) + 2)).2] (by decide +kernel) (by refine qt_aload_n (r := 1) rfl ?_; refine qt_getR (r := u6.2.2.1) rfl rfl rfl ?_; refine qt_getR (r := (u6.2.2.1) + 2) rfl rfl rfl ?_; refine qt_iload_n (x := x1) rfl ?_; refine qt_iald ?_; exact qt_z rfl rfl rfl rfl rfl) ⟨(q_id_of rfl), ho10, ho11, ho12⟩ ?_
      exact s_retI .int (by decide +kernel) rfl rfl h
    · cases hj
      replace h := h.2.2.2 (by omega)
      refine s_blk [(.aload_n 0, 1, 0, 0), (.getfield 56, 3, 11, 8), (.aload_n 0, 1, 0, 0), (.getfield 19, 3, 11, 1), (.iload_n 1, 1, 0, 0)] 73 [some (.ref (1)), some (.int (x1)), some (.int (x2))] [.int (x1), .ref (u6.2.2.1), .ref (56)] u6 [q_id 116 11 1, q_id 116 11 1] (by decide +kernel) (by refine qt_aload_n (r := 1) rfl ?_; refine qt_getR (r := 56) rfl rfl rfl ?_; refine qt_aload_n (r := 1) rfl ?_; refine qt_getR (r := u6.2.2.1) rfl rfl rfl ?_; refine qt_iload_n (x := x1) rfl ?_; exact qt_z rfl rfl rfl rfl rfl) ⟨(q_id_of rfl), (q_id_of rfl)⟩ ?_
      refine s_callV (a := 0) (a' := 0) (As := [.ref (u6.2.2.1), .int (x1)]) (id := 56) (st := []) kX6_debtsTo l_11_198 (by decide +kernel) (q_id_of rfl) rfl (Nat.le_of_ble_eq_true rfl) (s_mono h (s_I_of (fun v13 u14 h => ?_)) (fun _ _ h9 => h9))
      show s_Ex (d + 1) 0 mX11_creditor 76 [some (.ref (1)), some (.int (x1)), some (.int (x2))] [.int (v13)] u14 Q X
      exact s_retI .int (by decide +kernel) rfl rfl h
    · simp at hj
theorem eX11_creditor {d : Nat} {x1 : Int32} {x2 : Int32} {w : q_Sm} {Q : s_Po} {X : s_Xo} (h : vX11_creditor_0 d x1 x2 w Q X) : s_Ev (d + 1) 2 mX11_creditor w [.ref (1), .int (x1), .int (x2)] Q X := s_of (by decide +kernel) rfl (Nat.le_of_ble_eq_true rfl) (xX11_creditor_0 h)
def vX11_debt_0 (d : Nat) (x1 : Int32) (x2 : Int32) (w : q_Sm) (Q : s_Po) (X : s_Xo) : Prop := s_EvV d 1 mX11_requireDebt w [.ref (1), .int (x1)] (fun u2 => s_EvI d 0 mX11_isIn u2 [.int (x2), .int (0), .int (6)] (fun v3 u4 => s_EvV d 1 mX11_require u4 [.ref (1), .int (v3)] (fun u6 => (((Int32.toInt x2) < 0 ∨ 5 < (Int32.toInt x2)) → s_EvI d 0 mX6_paid u6 [.ref (56), .int (x1)] (fun v22 u23 => Q (some (.int (v22))) u23) X) ∧ ((Int32.toInt x2) = 0 → s_EvI d 0 mX6_holder u6 [.ref (56), .int (x1)] (fun v7 u8 => Q (some (.int (v7))) u8) X) ∧ ((Int32.toInt x2) = 1 → (q_id 116 2 (u6.2.2.1)) ∧ (q_id 116 14 ((u6.2.2.1) + 4)) ∧ (vp_in x1 (q_sh ((u6.2.2.1) + 4)).2) ∧ Q (some (.int (u6.1 ((u6.2.2.1) + 4) (Int32.toNatClampNeg x1)))) u6) ∧ ((Int32.toInt x2) = 2 → s_EvI d 0 mX6_owed u6 [.ref (56), .int (x1)] (fun v12 u13 => Q (some (.int (v12))) u13) X) ∧ ((Int32.toInt x2) = 3 → (q_id 116 2 (u6.2.2.1)) ∧ (q_id 116 14 ((u6.2.2.1) + 6)) ∧ (vp_in x1 (q_sh ((u6.2.2.1) + 6)).2) ∧ Q (some (.int (u6.1 ((u6.2.2.1) + 6) (Int32.toNatClampNeg x1)))) u6) ∧ ((Int32.toInt x2) = 4 → (q_id 116 2 (u6.2.2.1)) ∧ (q_id 116 14 ((u6.2.2.1) + 7)) ∧ (vp_in x1 (q_sh ((u6.2.2.1) + 7)).2) ∧ Q (some (.int (u6.1 ((u6.2.2.1) + 7) (Int32.toNatClampNeg x1)))) u6) ∧ ((Int32.toInt x2) = 5 → s_EvI d 0 mX6_defaulted u6 [.ref (56), .int (x1)] (fun v20 u21 => Q (some (.int (v20))) u21) X)) X) X) X
theorem xX11_debt_0 {d : Nat} {x1 : Int32} {x2 : Int32} {w : q_Sm} {Q : s_Po} {X : s_Xo} (h : vX11_debt_0 d x1 x2 w Q X) : s_Ex (d + 1) 2 mX11_debt 0 [some (.ref (1)), some (.int (x1)), some (.int (x2))] [] w Q X := by
  unfold vX11_debt_0 at h
  refine s_blk [(.aload_n 0, 1, 0, 0), (.iload_n 1, 1, 0, 0)] 2 [some (.ref (1)), some (.int (x1)), some (.int (x2))] [.int (x1), .ref (1)] w [] (by decide +kernel) (by refine qt_aload_n (r := 1) rfl ?_; refine qt_iload_n (x := x1) rfl ?_; exact qt_z rfl rfl rfl rfl rfl) trivial ?_
  refine s_callV (a := 1) (a' := 1) (As := [.int (x1)]) (id := 1) (st := []) kX11_requireDebt l_11_205 (by decide +kernel) (q_id_of rfl) rfl (Nat.le_of_ble_eq_true rfl) (s_mono h (s_V_of (fun u2 h => ?_)) (fun _ _ h9 => h9))
  show s_Ex (d + 1) 1 mX11_debt 5 [some (.ref (1)), some (.int (x1)), some (.int (x2))] [] u2 Q X
  refine s_blk [(.aload_n 0, 1, 0, 0), (.iload_n 2, 1, 0, 0), (.iconst 0, 1, 0, 0), (.bipush 6, 2, 0, 0)] 10 [some (.ref (1)), some (.int (x1)), some (.int (x2))] [.int (6), .int (0), .int (x2), .ref (1)] u2 [] (by decide +kernel) (by refine qt_aload_n (r := 1) rfl ?_; refine qt_iload_n (x := x2) rfl ?_; refine qt_iconst qc_0 ?_; refine qt_bipush qb_6 ?_; exact qt_z rfl rfl rfl rfl rfl) trivial ?_
  refine s_callS (a := 1) (a' := 0) (As := [.int (x2), .int (0), .int (6)]) (st := [.ref (1)]) kX11_isIn l_11_161 (by decide +kernel) rfl (Nat.le_of_ble_eq_true rfl) (s_mono h (s_I_of (fun v3 u4 h => ?_)) (fun _ _ h9 => h9))
  show s_Ex (d + 1) 1 mX11_debt 13 [some (.ref (1)), some (.int (x1)), some (.int (x2))] [.int (v3), .ref (1)] u4 Q X
  refine s_callV (a := 0) (a' := 1) (As := [.int (v3)]) (id := 1) (st := []) kX11_require l_11_165 (by decide +kernel) (q_id_of rfl) rfl (Nat.le_of_ble_eq_true rfl) (s_mono h (s_V_of (fun u6 h => ?_)) (fun _ _ h9 => h9))
  show s_Ex (d + 1) 0 mX11_debt 16 [some (.ref (1)), some (.int (x1)), some (.int (x2))] [] u6 Q X
  refine s_blk [(.iload_n 2, 1, 0, 0)] 17 [some (.ref (1)), some (.int (x1)), some (.int (x2))] [.int (x2)] u6 [] (by decide +kernel) (by refine qt_iload_n (x := x2) rfl ?_; exact qt_z rfl rfl rfl rfl rfl) trivial ?_
  refine s_tsw (dflt := 96) (lo := 0) (hi := 5) (offs := #[39, 48, 58, 67, 77, 87]) (len := 39) 113 [56, 65, 75, 84, 94, 104] (by decide +kernel) (by decide) (by decide) (by decide) (fun hc => ?_) (fun j q hj hx => ?_)
  · replace h := h.1 hc
    refine s_blk [(.aload_n 0, 1, 0, 0), (.getfield 56, 3, 11, 8), (.iload_n 1, 1, 0, 0)] 118 [some (.ref (1)), some (.int (x1)), some (.int (x2))] [.int (x1), .ref (56)] u6 [q_id 116 11 1] (by decide +kernel) (by refine qt_aload_n (r := 1) rfl ?_; refine qt_getR (r := 56) rfl rfl rfl ?_; refine qt_iload_n (x := x1) rfl ?_; exact qt_z rfl rfl rfl rfl rfl) (q_id_of rfl) ?_
    refine s_callV (a := 0) (a' := 0) (As := [.int (x1)]) (id := 56) (st := []) kX6_paid l_11_227 (by decide +kernel) (q_id_of rfl) rfl (Nat.le_of_ble_eq_true rfl) (s_mono h (s_I_of (fun v22 u23 h => ?_)) (fun _ _ h9 => h9))
    show s_Ex (d + 1) 0 mX11_debt 121 [some (.ref (1)), some (.int (x1)), some (.int (x2))] [.int (v22)] u23 Q X
    exact s_retI .int (by decide +kernel) rfl rfl h
  · rcases j with _ | _ | _ | _ | _ | _ | j
    · cases hj
      replace h := h.2.1 (by omega)
      refine s_blk [(.aload_n 0, 1, 0, 0), (.getfield 56, 3, 11, 8), (.iload_n 1, 1, 0, 0)] 61 [some (.ref (1)), some (.int (x1)), some (.int (x2))] [.int (x1), .ref (56)] u6 [q_id 116 11 1] (by decide +kernel) (by refine qt_aload_n (r := 1) rfl ?_; refine qt_getR (r := 56) rfl rfl rfl ?_; refine qt_iload_n (x := x1) rfl ?_; exact qt_z rfl rfl rfl rfl rfl) (q_id_of rfl) ?_
      refine s_callV (a := 0) (a' := 0) (As := [.int (x1)]) (id := 56) (st := []) kX6_holder l_11_208 (by decide +kernel) (q_id_of rfl) rfl (Nat.le_of_ble_eq_true rfl) (s_mono h (s_I_of (fun v7 u8 h => ?_)) (fun _ _ h9 => h9))
      show s_Ex (d + 1) 0 mX11_debt 64 [some (.ref (1)), some (.int (x1)), some (.int (x2))] [.int (v7)] u8 Q X
      exact s_retI .int (by decide +kernel) rfl rfl h
    · cases hj
      replace h := h.2.2.1 (by omega)
      obtain ⟨ho9, h⟩ := h
      obtain ⟨ho10, h⟩ := h
      obtain ⟨ho11, h⟩ := h
      refine s_blk [(.aload_n 0, 1, 0, 0), (.getfield 19, 3, 11, 1), (.getfield 212, 3, 2, 5), (.iload_n 1, 1, 0, 0), (.iaload, 1, 0, 0)] 74 [some (.ref (1)), some (.int (x1)), some (.int (x2))] [.int (u6.1 ((u6.2.2.1) + 4) (Int32.toNatClampNeg x1))] u6 [q_id 116 11 1, q_id 116 2 (u6.2.2.1), q_id 116 14 ((u6.2.2.1) + 4), vp_in x1 (q_sh ((u6.2.2.1) + 4)).2] (by decide +kernel) (by refine qt_aload_n (r := 1) rfl ?_; refine qt_getR (r := u6.2.2.1) rfl rfl rfl ?_; refine qt_getR (r := (u6.2.2.1) + 4) rfl rfl rfl ?_; refine qt_iload_n (x := x1) rfl ?_; refine qt_iald ?_; exact qt_z rfl rfl rfl rfl rfl) ⟨(q_id_of rfl), ho9, ho10, ho11⟩ ?_
      exact s_retI .int (by decide +kernel) rfl rfl h
    · cases hj
      replace h := h.2.2.2.1 (by omega)
      refine s_blk [(.aload_n 0, 1, 0, 0), (.getfield 56, 3, 11, 8), (.iload_n 1, 1, 0, 0)] 80 [some (.ref (1)), some (.int (x1)), some (.int (x2))] [.int (x1), .ref (56)] u6 [q_id 116 11 1] (by decide +kernel) (by refine qt_aload_n (r := 1) rfl ?_; refine qt_getR (r := 56) rfl rfl rfl ?_; refine qt_iload_n (x := x1) rfl ?_; exact qt_z rfl rfl rfl rfl rfl) (q_id_of rfl) ?_
      refine s_callV (a := 0) (a' := 0) (As := [.int (x1)]) (id := 56) (st := []) kX6_owed l_11_215 (by decide +kernel) (q_id_of rfl) rfl (Nat.le_of_ble_eq_true rfl) (s_mono h (s_I_of (fun v12 u13 h => ?_)) (fun _ _ h9 => h9))
      show s_Ex (d + 1) 0 mX11_debt 83 [some (.ref (1)), some (.int (x1)), some (.int (x2))] [.int (v12)] u13 Q X
      exact s_retI .int (by decide +kernel) rfl rfl h
    · cases hj
      replace h := h.2.2.2.2.1 (by omega)
      obtain ⟨ho14, h⟩ := h
      obtain ⟨ho15, h⟩ := h
      obtain ⟨ho16, h⟩ := h
      refine s_blk [(.aload_n 0, 1, 0, 0), (.getfield 19, 3, 11, 1), (.getfield 218, 3, 2, 7), (.iload_n 1, 1, 0, 0), (.iaload, 1, 0, 0)] 93 [some (.ref (1)), some (.int (x1)), some (.int (x2))] [.int (u6.1 ((u6.2.2.1) + 6) (Int32.toNatClampNeg x1))] u6 [q_id 116 11 1, q_id 116 2 (u6.2.2.1), q_id 116 14 ((u6.2.2.1) + 6), vp_in x1 (q_sh ((u6.2.2.1) + 6)).2] (by decide +kernel) (by refine qt_aload_n (r := 1) rfl ?_; refine qt_getR (r := u6.2.2.1) rfl rfl rfl ?_; refine qt_getR (r := (u6.2.2.1) + 6) rfl rfl rfl ?_; refine qt_iload_n (x := x1) rfl ?_; refine qt_iald ?_; exact qt_z rfl rfl rfl rfl rfl) ⟨(q_id_of rfl), ho14, ho15, ho16⟩ ?_
      exact s_retI .int (by decide +kernel) rfl rfl h
    · cases hj
      replace h := h.2.2.2.2.2.1 (by omega)
      obtain ⟨ho17, h⟩ := h
      obtain ⟨ho18, h⟩ := h
      obtain ⟨ho19, h⟩ := h
      refine s_blk [(.aload_n 0, 1, 0, 0), (.getfield 19, 3, 11, 1), (.getfield 221, 3, 2, 8), (.iload_n 1, 1, 0, 0), (.iaload, 1, 0, 0)] 103 [some (.ref (1)), some (.int (x1)), some (.int (x2))] [.int (u6.1 ((u6.2.2.1) + 7) (Int32.toNatClampNeg x1))] u6 [q_id 116 11 1, q_id 116 2 (u6.2.2.1), q_id 116 14 ((u6.2.2.1) + 7), vp_in x1 (q_sh ((u6.2.2.1) + 7)).2] (by decide +kernel) (by refine qt_aload_n (r := 1) rfl ?_; refine qt_getR (r := u6.2.2.1) rfl rfl rfl ?_; refine qt_getR (r := (u6.2.2.1) + 7) rfl rfl rfl ?_; refine qt_iload_n (x := x1) rfl ?_; refine qt_iald ?_; exact qt_z rfl rfl rfl rfl rfl) ⟨(q_id_of rfl), ho17, ho18, ho19⟩ ?_
      exact s_retI .int (by decide +kernel) rfl rfl h
    · cases hj
      replace h := h.2.2.2.2.2.2 (by omega)
      refine s_blk [(.aload_n 0, 1, 0, 0), (.getfield 56, 3, 11, 8), (.iload_n 1, 1, 0, 0)] 109 [some (.ref (1)), some (.int (x1)), some (.int (x2))] [.int (x1), .ref (56)] u6 [q_id 116 11 1] (by decide +kernel) (by refine qt_aload_n (r := 1) rfl ?_; refine qt_getR (r := 56) rfl rfl rfl ?_; refine qt_iload_n (x := x1) rfl ?_; exact qt_z rfl rfl rfl rfl rfl) (q_id_of rfl) ?_
      refine s_callV (a := 0) (a' := 0) (As := [.int (x1)]) (id := 56) (st := []) kX6_defaulted l_11_224 (by decide +kernel) (q_id_of rfl) rfl (Nat.le_of_ble_eq_true rfl) (s_mono h (s_I_of (fun v20 u21 h => ?_)) (fun _ _ h9 => h9))
      show s_Ex (d + 1) 0 mX11_debt 112 [some (.ref (1)), some (.int (x1)), some (.int (x2))] [.int (v20)] u21 Q X
      exact s_retI .int (by decide +kernel) rfl rfl h
    · simp at hj
theorem eX11_debt {d : Nat} {x1 : Int32} {x2 : Int32} {w : q_Sm} {Q : s_Po} {X : s_Xo} (h : vX11_debt_0 d x1 x2 w Q X) : s_Ev (d + 1) 2 mX11_debt w [.ref (1), .int (x1), .int (x2)] Q X := s_of (by decide +kernel) rfl (Nat.le_of_ble_eq_true rfl) (xX11_debt_0 h)
def vX11_light_0 (d : Nat) (x1 : Int32) (x2 : Int32) (w : q_Sm) (Q : s_Po) (X : s_Xo) : Prop := s_EvI d 0 mX11_isColour w [.int (x1)] (fun v1 u2 => ((v1 = 0) → s_EvV d 1 mX11_require u2 [.ref (1), .int (0)] (fun u4 => (((Int32.toInt x2) < 0 ∨ 3 < (Int32.toInt x2)) → s_EvI d 0 mX6_paidOf u4 [.ref (56), .ref (u4.2.2.1), .int (x1)] (fun v16 u17 => Q (some (.int (v16))) u17) X) ∧ ((Int32.toInt x2) = 0 → s_EvI d 0 mX6_unspent u4 [.ref (56), .int (x1)] (fun v5 u6 => Q (some (.int (v5))) u6) X) ∧ ((Int32.toInt x2) = 1 → (q_id 116 2 (u4.2.2.1)) ∧ (q_id 116 14 ((u4.2.2.1) + 11)) ∧ (vp_in x1 (q_sh ((u4.2.2.1) + 11)).2) ∧ s_EvI d 0 mX6_lent u4 [.ref (56), .int (x1)] (fun v7 u8 => Q (some (.int ((u4.1 ((u4.2.2.1) + 11) (Int32.toNatClampNeg x1)) - v7))) u8) X) ∧ ((Int32.toInt x2) = 2 → s_EvI d 0 mX6_lent u4 [.ref (56), .int (x1)] (fun v12 u13 => Q (some (.int (v12))) u13) X) ∧ ((Int32.toInt x2) = 3 → s_EvI d 0 mX6_owedOf u4 [.ref (56), .ref (u4.2.2.1), .int (x1)] (fun v14 u15 => Q (some (.int (v14))) u15) X)) X) ∧ (¬ (v1 = 0) → s_EvI d 0 mX11_isIn u2 [.int (x2), .int (0), .int (4)] (fun v18 u19 => ((v18 = 0) → s_EvV d 1 mX11_require u19 [.ref (1), .int (0)] (fun u21 => (((Int32.toInt x2) < 0 ∨ 3 < (Int32.toInt x2)) → s_EvI d 0 mX6_paidOf u21 [.ref (56), .ref (u21.2.2.1), .int (x1)] (fun v33 u34 => Q (some (.int (v33))) u34) X) ∧ ((Int32.toInt x2) = 0 → s_EvI d 0 mX6_unspent u21 [.ref (56), .int (x1)] (fun v22 u23 => Q (some (.int (v22))) u23) X) ∧ ((Int32.toInt x2) = 1 → (q_id 116 2 (u21.2.2.1)) ∧ (q_id 116 14 ((u21.2.2.1) + 11)) ∧ (vp_in x1 (q_sh ((u21.2.2.1) + 11)).2) ∧ s_EvI d 0 mX6_lent u21 [.ref (56), .int (x1)] (fun v24 u25 => Q (some (.int ((u21.1 ((u21.2.2.1) + 11) (Int32.toNatClampNeg x1)) - v24))) u25) X) ∧ ((Int32.toInt x2) = 2 → s_EvI d 0 mX6_lent u21 [.ref (56), .int (x1)] (fun v29 u30 => Q (some (.int (v29))) u30) X) ∧ ((Int32.toInt x2) = 3 → s_EvI d 0 mX6_owedOf u21 [.ref (56), .ref (u21.2.2.1), .int (x1)] (fun v31 u32 => Q (some (.int (v31))) u32) X)) X) ∧ (¬ (v18 = 0) → s_EvV d 1 mX11_require u19 [.ref (1), .int (1)] (fun u36 => (((Int32.toInt x2) < 0 ∨ 3 < (Int32.toInt x2)) → s_EvI d 0 mX6_paidOf u36 [.ref (56), .ref (u36.2.2.1), .int (x1)] (fun v48 u49 => Q (some (.int (v48))) u49) X) ∧ ((Int32.toInt x2) = 0 → s_EvI d 0 mX6_unspent u36 [.ref (56), .int (x1)] (fun v37 u38 => Q (some (.int (v37))) u38) X) ∧ ((Int32.toInt x2) = 1 → (q_id 116 2 (u36.2.2.1)) ∧ (q_id 116 14 ((u36.2.2.1) + 11)) ∧ (vp_in x1 (q_sh ((u36.2.2.1) + 11)).2) ∧ s_EvI d 0 mX6_lent u36 [.ref (56), .int (x1)] (fun v39 u40 => Q (some (.int ((u36.1 ((u36.2.2.1) + 11) (Int32.toNatClampNeg x1)) - v39))) u40) X) ∧ ((Int32.toInt x2) = 2 → s_EvI d 0 mX6_lent u36 [.ref (56), .int (x1)] (fun v44 u45 => Q (some (.int (v44))) u45) X) ∧ ((Int32.toInt x2) = 3 → s_EvI d 0 mX6_owedOf u36 [.ref (56), .ref (u36.2.2.1), .int (x1)] (fun v46 u47 => Q (some (.int (v46))) u47) X)) X)) X)) X
theorem xX11_light_0 {d : Nat} {x1 : Int32} {x2 : Int32} {w : q_Sm} {Q : s_Po} {X : s_Xo} (h : vX11_light_0 d x1 x2 w Q X) : s_Ex (d + 1) 1 mX11_light 0 [some (.ref (1)), some (.int (x1)), some (.int (x2))] [] w Q X := by
  unfold vX11_light_0 at h
  refine s_blk [(.aload_n 0, 1, 0, 0), (.iload_n 1, 1, 0, 0)] 2 [some (.ref (1)), some (.int (x1)), some (.int (x2))] [.int (x1), .ref (1)] w [] (by decide +kernel) (by refine qt_aload_n (r := 1) rfl ?_; refine qt_iload_n (x := x1) rfl ?_; exact qt_z rfl rfl rfl rfl rfl) trivial ?_
  refine s_callS (a := 1) (a' := 0) (As := [.int (x1)]) (st := [.ref (1)]) kX11_isColour l_11_230 (by decide +kernel) rfl (Nat.le_of_ble_eq_true rfl) (s_mono h (s_I_of (fun v1 u2 h => ?_)) (fun _ _ h9 => h9))
  show s_Ex (d + 1) 1 mX11_light 5 [some (.ref (1)), some (.int (x1)), some (.int (x2))] [.int (v1), .ref (1)] u2 Q X
  refine s_if (cd := .eq) (off := 16) 21 (by decide +kernel) (by decide) (fun hc => ?_) (fun hc => ?_)
  · replace h := h.1 hc
    refine s_blk [(.iconst 0, 1, 0, 0)] 22 [some (.ref (1)), some (.int (x1)), some (.int (x2))] [.int (0), .ref (1)] u2 [] (by decide +kernel) (by refine qt_iconst qc_0 ?_; exact qt_z rfl rfl rfl rfl rfl) trivial ?_
    refine s_callV (a := 0) (a' := 1) (As := [.int (0)]) (id := 1) (st := []) kX11_require l_11_165 (by decide +kernel) (q_id_of rfl) rfl (Nat.le_of_ble_eq_true rfl) (s_mono h (s_V_of (fun u4 h => ?_)) (fun _ _ h9 => h9))
    show s_Ex (d + 1) 0 mX11_light 25 [some (.ref (1)), some (.int (x1)), some (.int (x2))] [] u4 Q X
    refine s_blk [(.iload_n 2, 1, 0, 0)] 26 [some (.ref (1)), some (.int (x1)), some (.int (x2))] [.int (x2)] u4 [] (by decide +kernel) (by refine qt_iload_n (x := x2) rfl ?_; exact qt_z rfl rfl rfl rfl rfl) trivial ?_
    refine s_tsw (dflt := 80) (lo := 0) (hi := 3) (offs := #[30, 39, 58, 67]) (len := 30) 106 [56, 65, 84, 93] (by decide +kernel) (by decide) (by decide) (by decide) (fun hc => ?_) (fun j q hj hx => ?_)
    · replace h := h.1 hc
      refine s_blk [(.aload_n 0, 1, 0, 0), (.getfield 56, 3, 11, 8), (.aload_n 0, 1, 0, 0), (.getfield 19, 3, 11, 1), (.iload_n 1, 1, 0, 0)] 115 [some (.ref (1)), some (.int (x1)), some (.int (x2))] [.int (x1), .ref (u4.2.2.1), .ref (56)] u4 [q_id 116 11 1, q_id 116 11 1] (by decide +kernel) (by refine qt_aload_n (r := 1) rfl ?_; refine qt_getR (r := 56) rfl rfl rfl ?_; refine qt_aload_n (r := 1) rfl ?_; refine qt_getR (r := u4.2.2.1) rfl rfl rfl ?_; refine qt_iload_n (x := x1) rfl ?_; exact qt_z rfl rfl rfl rfl rfl) ⟨(q_id_of rfl), (q_id_of rfl)⟩ ?_
      refine s_callV (a := 0) (a' := 0) (As := [.ref (u4.2.2.1), .int (x1)]) (id := 56) (st := []) kX6_paidOf l_11_246 (by decide +kernel) (q_id_of rfl) rfl (Nat.le_of_ble_eq_true rfl) (s_mono h (s_I_of (fun v16 u17 h => ?_)) (fun _ _ h9 => h9))
      show s_Ex (d + 1) 0 mX11_light 118 [some (.ref (1)), some (.int (x1)), some (.int (x2))] [.int (v16)] u17 Q X
      exact s_retI .int (by decide +kernel) rfl rfl h
    · rcases j with _ | _ | _ | _ | j
      · cases hj
        replace h := h.2.1 (by omega)
        refine s_blk [(.aload_n 0, 1, 0, 0), (.getfield 56, 3, 11, 8), (.iload_n 1, 1, 0, 0)] 61 [some (.ref (1)), some (.int (x1)), some (.int (x2))] [.int (x1), .ref (56)] u4 [q_id 116 11 1] (by decide +kernel) (by refine qt_aload_n (r := 1) rfl ?_; refine qt_getR (r := 56) rfl rfl rfl ?_; refine qt_iload_n (x := x1) rfl ?_; exact qt_z rfl rfl rfl rfl rfl) (q_id_of rfl) ?_
        refine s_callV (a := 0) (a' := 0) (As := [.int (x1)]) (id := 56) (st := []) kX6_unspent l_11_234 (by decide +kernel) (q_id_of rfl) rfl (Nat.le_of_ble_eq_true rfl) (s_mono h (s_I_of (fun v5 u6 h => ?_)) (fun _ _ h9 => h9))
        show s_Ex (d + 1) 0 mX11_light 64 [some (.ref (1)), some (.int (x1)), some (.int (x2))] [.int (v5)] u6 Q X
        exact s_retI .int (by decide +kernel) rfl rfl h
      · cases hj
        replace h := h.2.2.1 (by omega)
        obtain ⟨ho9, h⟩ := h
        obtain ⟨ho10, h⟩ := h
        obtain ⟨ho11, h⟩ := h
        refine s_blk [(.aload_n 0, 1, 0, 0), (.getfield 19, 3, 11, 1), (.getfield 237, 3, 2, 13), (.iload_n 1, 1, 0, 0), (.iaload, 1, 0, 0), (.aload_n 0, 1, 0, 0), (.getfield 56, 3, 11, 8), (.iload_n 1, 1, 0, 0)] 79 [some (.ref (1)), some (.int (x1)), some (.int (x2))] [.int (x1), .ref (56), .int (u4.1 ((u4.2.2.1) + 11) (Int32.toNatClampNeg x1))] u4 [q_id 116 11 1, q_id 116 2 (u4.2.2.1), q_id 116 14 ((u4.2.2.1) + 11), vp_in x1 (q_sh ((u4.2.2.1) + 11)).2, q_id 116 11 1] (by decide +kernel) (by refine qt_aload_n (r := 1) rfl ?_; refine qt_getR (r := u4.2.2.1) rfl rfl rfl ?_; refine qt_getR (r := (u4.2.2.1) + 11) rfl rfl rfl ?_; refine qt_iload_n (x := x1) rfl ?_; refine qt_iald ?_; refine qt_aload_n (r := 1) rfl ?_; refine qt_getR (r := 56) rfl rfl rfl ?_; refine qt_iload_n (x := x1) rfl ?_; exact qt_z rfl rfl rfl rfl rfl) ⟨(q_id_of rfl), ho9, ho10, ho11, (q_id_of rfl)⟩ ?_
        refine s_callV (a := 0) (a' := 0) (As := [.int (x1)]) (id := 56) (st := [.int (u4.1 ((u4.2.2.1) + 11) (Int32.toNatClampNeg x1))]) kX6_lent l_11_240 (by decide +kernel) (q_id_of rfl) rfl (Nat.le_of_ble_eq_true rfl) (s_mono h (s_I_of (fun v7 u8 h => ?_)) (fun _ _ h9 => h9))
        show s_Ex (d + 1) 0 mX11_light 82 [some (.ref (1)), some (.int (x1)), some (.int (x2))] [.int (v7), .int (u4.1 ((u4.2.2.1) + 11) (Int32.toNatClampNeg x1))] u8 Q X
        refine s_blk [(.isub, 1, 0, 0)] 83 [some (.ref (1)), some (.int (x1)), some (.int (x2))] [.int ((u4.1 ((u4.2.2.1) + 11) (Int32.toNatClampNeg x1)) - v7)] u8 [] (by decide +kernel) (by refine qt_isub ?_; exact qt_z rfl rfl rfl rfl rfl) trivial ?_
        exact s_retI .int (by decide +kernel) rfl rfl h
      · cases hj
        replace h := h.2.2.2.1 (by omega)
        refine s_blk [(.aload_n 0, 1, 0, 0), (.getfield 56, 3, 11, 8), (.iload_n 1, 1, 0, 0)] 89 [some (.ref (1)), some (.int (x1)), some (.int (x2))] [.int (x1), .ref (56)] u4 [q_id 116 11 1] (by decide +kernel) (by refine qt_aload_n (r := 1) rfl ?_; refine qt_getR (r := 56) rfl rfl rfl ?_; refine qt_iload_n (x := x1) rfl ?_; exact qt_z rfl rfl rfl rfl rfl) (q_id_of rfl) ?_
        refine s_callV (a := 0) (a' := 0) (As := [.int (x1)]) (id := 56) (st := []) kX6_lent l_11_240 (by decide +kernel) (q_id_of rfl) rfl (Nat.le_of_ble_eq_true rfl) (s_mono h (s_I_of (fun v12 u13 h => ?_)) (fun _ _ h9 => h9))
        show s_Ex (d + 1) 0 mX11_light 92 [some (.ref (1)), some (.int (x1)), some (.int (x2))] [.int (v12)] u13 Q X
        exact s_retI .int (by decide +kernel) rfl rfl h
      · cases hj
        replace h := h.2.2.2.2 (by omega)
        refine s_blk [(.aload_n 0, 1, 0, 0), (.getfield 56, 3, 11, 8), (.aload_n 0, 1, 0, 0), (.getfield 19, 3, 11, 1), (.iload_n 1, 1, 0, 0)] 102 [some (.ref (1)), some (.int (x1)), some (.int (x2))] [.int (x1), .ref (u4.2.2.1), .ref (56)] u4 [q_id 116 11 1, q_id 116 11 1] (by decide +kernel) (by refine qt_aload_n (r := 1) rfl ?_; refine qt_getR (r := 56) rfl rfl rfl ?_; refine qt_aload_n (r := 1) rfl ?_; refine qt_getR (r := u4.2.2.1) rfl rfl rfl ?_; refine qt_iload_n (x := x1) rfl ?_; exact qt_z rfl rfl rfl rfl rfl) ⟨(q_id_of rfl), (q_id_of rfl)⟩ ?_
        refine s_callV (a := 0) (a' := 0) (As := [.ref (u4.2.2.1), .int (x1)]) (id := 56) (st := []) kX6_owedOf l_11_243 (by decide +kernel) (q_id_of rfl) rfl (Nat.le_of_ble_eq_true rfl) (s_mono h (s_I_of (fun v14 u15 h => ?_)) (fun _ _ h9 => h9))
        show s_Ex (d + 1) 0 mX11_light 105 [some (.ref (1)), some (.int (x1)), some (.int (x2))] [.int (v14)] u15 Q X
        exact s_retI .int (by decide +kernel) rfl rfl h
      · simp at hj
  · replace h := h.2 hc
    refine s_blk [(.iload_n 2, 1, 0, 0), (.iconst 0, 1, 0, 0), (.iconst 4, 1, 0, 0)] 11 [some (.ref (1)), some (.int (x1)), some (.int (x2))] [.int (4), .int (0), .int (x2), .ref (1)] u2 [] (by decide +kernel) (by refine qt_iload_n (x := x2) rfl ?_; refine qt_iconst qc_0 ?_; refine qt_iconst qc_4 ?_; exact qt_z rfl rfl rfl rfl rfl) trivial ?_
    refine s_callS (a := 1) (a' := 0) (As := [.int (x2), .int (0), .int (4)]) (st := [.ref (1)]) kX11_isIn l_11_161 (by decide +kernel) rfl (Nat.le_of_ble_eq_true rfl) (s_mono h (s_I_of (fun v18 u19 h => ?_)) (fun _ _ h9 => h9))
    show s_Ex (d + 1) 1 mX11_light 14 [some (.ref (1)), some (.int (x1)), some (.int (x2))] [.int (v18), .ref (1)] u19 Q X
    refine s_if (cd := .eq) (off := 7) 21 (by decide +kernel) (by decide) (fun hc => ?_) (fun hc => ?_)
    · replace h := h.1 hc
      refine s_blk [(.iconst 0, 1, 0, 0)] 22 [some (.ref (1)), some (.int (x1)), some (.int (x2))] [.int (0), .ref (1)] u19 [] (by decide +kernel) (by refine qt_iconst qc_0 ?_; exact qt_z rfl rfl rfl rfl rfl) trivial ?_
      refine s_callV (a := 0) (a' := 1) (As := [.int (0)]) (id := 1) (st := []) kX11_require l_11_165 (by decide +kernel) (q_id_of rfl) rfl (Nat.le_of_ble_eq_true rfl) (s_mono h (s_V_of (fun u21 h => ?_)) (fun _ _ h9 => h9))
      show s_Ex (d + 1) 0 mX11_light 25 [some (.ref (1)), some (.int (x1)), some (.int (x2))] [] u21 Q X
      refine s_blk [(.iload_n 2, 1, 0, 0)] 26 [some (.ref (1)), some (.int (x1)), some (.int (x2))] [.int (x2)] u21 [] (by decide +kernel) (by refine qt_iload_n (x := x2) rfl ?_; exact qt_z rfl rfl rfl rfl rfl) trivial ?_
      refine s_tsw (dflt := 80) (lo := 0) (hi := 3) (offs := #[30, 39, 58, 67]) (len := 30) 106 [56, 65, 84, 93] (by decide +kernel) (by decide) (by decide) (by decide) (fun hc => ?_) (fun j q hj hx => ?_)
      · replace h := h.1 hc
        refine s_blk [(.aload_n 0, 1, 0, 0), (.getfield 56, 3, 11, 8), (.aload_n 0, 1, 0, 0), (.getfield 19, 3, 11, 1), (.iload_n 1, 1, 0, 0)] 115 [some (.ref (1)), some (.int (x1)), some (.int (x2))] [.int (x1), .ref (u21.2.2.1), .ref (56)] u21 [q_id 116 11 1, q_id 116 11 1] (by decide +kernel) (by refine qt_aload_n (r := 1) rfl ?_; refine qt_getR (r := 56) rfl rfl rfl ?_; refine qt_aload_n (r := 1) rfl ?_; refine qt_getR (r := u21.2.2.1) rfl rfl rfl ?_; refine qt_iload_n (x := x1) rfl ?_; exact qt_z rfl rfl rfl rfl rfl) ⟨(q_id_of rfl), (q_id_of rfl)⟩ ?_
        refine s_callV (a := 0) (a' := 0) (As := [.ref (u21.2.2.1), .int (x1)]) (id := 56) (st := []) kX6_paidOf l_11_246 (by decide +kernel) (q_id_of rfl) rfl (Nat.le_of_ble_eq_true rfl) (s_mono h (s_I_of (fun v33 u34 h => ?_)) (fun _ _ h9 => h9))
        show s_Ex (d + 1) 0 mX11_light 118 [some (.ref (1)), some (.int (x1)), some (.int (x2))] [.int (v33)] u34 Q X
        exact s_retI .int (by decide +kernel) rfl rfl h
      · rcases j with _ | _ | _ | _ | j
        · cases hj
          replace h := h.2.1 (by omega)
          refine s_blk [(.aload_n 0, 1, 0, 0), (.getfield 56, 3, 11, 8), (.iload_n 1, 1, 0, 0)] 61 [some (.ref (1)), some (.int (x1)), some (.int (x2))] [.int (x1), .ref (56)] u21 [q_id 116 11 1] (by decide +kernel) (by refine qt_aload_n (r := 1) rfl ?_; refine qt_getR (r := 56) rfl rfl rfl ?_; refine qt_iload_n (x := x1) rfl ?_; exact qt_z rfl rfl rfl rfl rfl) (q_id_of rfl) ?_
          refine s_callV (a := 0) (a' := 0) (As := [.int (x1)]) (id := 56) (st := []) kX6_unspent l_11_234 (by decide +kernel) (q_id_of rfl) rfl (Nat.le_of_ble_eq_true rfl) (s_mono h (s_I_of (fun v22 u23 h => ?_)) (fun _ _ h9 => h9))
          show s_Ex (d + 1) 0 mX11_light 64 [some (.ref (1)), some (.int (x1)), some (.int (x2))] [.int (v22)] u23 Q X
          exact s_retI .int (by decide +kernel) rfl rfl h
        · cases hj
          replace h := h.2.2.1 (by omega)
          obtain ⟨ho26, h⟩ := h
          obtain ⟨ho27, h⟩ := h
          obtain ⟨ho28, h⟩ := h
          refine s_blk [(.aload_n 0, 1, 0, 0), (.getfield 19, 3, 11, 1), (.getfield 237, 3, 2, 13), (.iload_n 1, 1, 0, 0), (.iaload, 1, 0, 0), (.aload_n 0, 1, 0, 0), (.getfield 56, 3, 11, 8), (.iload_n 1, 1, 0, 0)] 79 [some (.ref (1)), some (.int (x1)), some (.int (x2))] [.int (x1), .ref (56), .int (u21.1 ((u21.2.2.1) + 11) (Int32.toNatClampNeg x1))] u21 [q_id 116 11 1, q_id 116 2 (u21.2.2.1), q_id 116 14 ((u21.2.2.1) + 11), vp_in x1 (q_sh ((u21.2.2.1) + 11)).2, q_id 116 11 1] (by decide +kernel) (by refine qt_aload_n (r := 1) rfl ?_; refine qt_getR (r := u21.2.2.1) rfl rfl rfl ?_; refine qt_getR (r := (u21.2.2.1) + 11) rfl rfl rfl ?_; refine qt_iload_n (x := x1) rfl ?_; refine qt_iald ?_; refine qt_aload_n (r := 1) rfl ?_; refine qt_getR (r := 56) rfl rfl rfl ?_; refine qt_iload_n (x := x1) rfl ?_; exact qt_z rfl rfl rfl rfl rfl) ⟨(q_id_of rfl), ho26, ho27, ho28, (q_id_of rfl)⟩ ?_
          refine s_callV (a := 0) (a' := 0) (As := [.int (x1)]) (id := 56) (st := [.int (u21.1 ((u21.2.2.1) + 11) (Int32.toNatClampNeg x1))]) kX6_lent l_11_240 (by decide +kernel) (q_id_of rfl) rfl (Nat.le_of_ble_eq_true rfl) (s_mono h (s_I_of (fun v24 u25 h => ?_)) (fun _ _ h9 => h9))
          show s_Ex (d + 1) 0 mX11_light 82 [some (.ref (1)), some (.int (x1)), some (.int (x2))] [.int (v24), .int (u21.1 ((u21.2.2.1) + 11) (Int32.toNatClampNeg x1))] u25 Q X
          refine s_blk [(.isub, 1, 0, 0)] 83 [some (.ref (1)), some (.int (x1)), some (.int (x2))] [.int ((u21.1 ((u21.2.2.1) + 11) (Int32.toNatClampNeg x1)) - v24)] u25 [] (by decide +kernel) (by refine qt_isub ?_; exact qt_z rfl rfl rfl rfl rfl) trivial ?_
          exact s_retI .int (by decide +kernel) rfl rfl h
        · cases hj
          replace h := h.2.2.2.1 (by omega)
          refine s_blk [(.aload_n 0, 1, 0, 0), (.getfield 56, 3, 11, 8), (.iload_n 1, 1, 0, 0)] 89 [some (.ref (1)), some (.int (x1)), some (.int (x2))] [.int (x1), .ref (56)] u21 [q_id 116 11 1] (by decide +kernel) (by refine qt_aload_n (r := 1) rfl ?_; refine qt_getR (r := 56) rfl rfl rfl ?_; refine qt_iload_n (x := x1) rfl ?_; exact qt_z rfl rfl rfl rfl rfl) (q_id_of rfl) ?_
          refine s_callV (a := 0) (a' := 0) (As := [.int (x1)]) (id := 56) (st := []) kX6_lent l_11_240 (by decide +kernel) (q_id_of rfl) rfl (Nat.le_of_ble_eq_true rfl) (s_mono h (s_I_of (fun v29 u30 h => ?_)) (fun _ _ h9 => h9))
          show s_Ex (d + 1) 0 mX11_light 92 [some (.ref (1)), some (.int (x1)), some (.int (x2))] [.int (v29)] u30 Q X
          exact s_retI .int (by decide +kernel) rfl rfl h
        · cases hj
          replace h := h.2.2.2.2 (by omega)
          refine s_blk [(.aload_n 0, 1, 0, 0), (.getfield 56, 3, 11, 8), (.aload_n 0, 1, 0, 0), (.getfield 19, 3, 11, 1), (.iload_n 1, 1, 0, 0)] 102 [some (.ref (1)), some (.int (x1)), some (.int (x2))] [.int (x1), .ref (u21.2.2.1), .ref (56)] u21 [q_id 116 11 1, q_id 116 11 1] (by decide +kernel) (by refine qt_aload_n (r := 1) rfl ?_; refine qt_getR (r := 56) rfl rfl rfl ?_; refine qt_aload_n (r := 1) rfl ?_; refine qt_getR (r := u21.2.2.1) rfl rfl rfl ?_; refine qt_iload_n (x := x1) rfl ?_; exact qt_z rfl rfl rfl rfl rfl) ⟨(q_id_of rfl), (q_id_of rfl)⟩ ?_
          refine s_callV (a := 0) (a' := 0) (As := [.ref (u21.2.2.1), .int (x1)]) (id := 56) (st := []) kX6_owedOf l_11_243 (by decide +kernel) (q_id_of rfl) rfl (Nat.le_of_ble_eq_true rfl) (s_mono h (s_I_of (fun v31 u32 h => ?_)) (fun _ _ h9 => h9))
          show s_Ex (d + 1) 0 mX11_light 105 [some (.ref (1)), some (.int (x1)), some (.int (x2))] [.int (v31)] u32 Q X
          exact s_retI .int (by decide +kernel) rfl rfl h
        · simp at hj
    · replace h := h.2 hc
      refine s_blk [(.iconst 1, 1, 0, 0), (.goto 4, 3, 22, 0)] 22 [some (.ref (1)), some (.int (x1)), some (.int (x2))] [.int (1), .ref (1)] u19 [] (by decide +kernel) (by refine qt_iconst qc_1 ?_; refine qt_goto ?_; exact qt_z rfl rfl rfl rfl rfl) trivial ?_
      refine s_callV (a := 0) (a' := 1) (As := [.int (1)]) (id := 1) (st := []) kX11_require l_11_165 (by decide +kernel) (q_id_of rfl) rfl (Nat.le_of_ble_eq_true rfl) (s_mono h (s_V_of (fun u36 h => ?_)) (fun _ _ h9 => h9))
      show s_Ex (d + 1) 0 mX11_light 25 [some (.ref (1)), some (.int (x1)), some (.int (x2))] [] u36 Q X
      refine s_blk [(.iload_n 2, 1, 0, 0)] 26 [some (.ref (1)), some (.int (x1)), some (.int (x2))] [.int (x2)] u36 [] (by decide +kernel) (by refine qt_iload_n (x := x2) rfl ?_; exact qt_z rfl rfl rfl rfl rfl) trivial ?_
      refine s_tsw (dflt := 80) (lo := 0) (hi := 3) (offs := #[30, 39, 58, 67]) (len := 30) 106 [56, 65, 84, 93] (by decide +kernel) (by decide) (by decide) (by decide) (fun hc => ?_) (fun j q hj hx => ?_)
      · replace h := h.1 hc
        refine s_blk [(.aload_n 0, 1, 0, 0), (.getfield 56, 3, 11, 8), (.aload_n 0, 1, 0, 0), (.getfield 19, 3, 11, 1), (.iload_n 1, 1, 0, 0)] 115 [some (.ref (1)), some (.int (x1)), some (.int (x2))] [.int (x1), .ref (u36.2.2.1), .ref (56)] u36 [q_id 116 11 1, q_id 116 11 1] (by decide +kernel) (by refine qt_aload_n (r := 1) rfl ?_; refine qt_getR (r := 56) rfl rfl rfl ?_; refine qt_aload_n (r := 1) rfl ?_; refine qt_getR (r := u36.2.2.1) rfl rfl rfl ?_; refine qt_iload_n (x := x1) rfl ?_; exact qt_z rfl rfl rfl rfl rfl) ⟨(q_id_of rfl), (q_id_of rfl)⟩ ?_
        refine s_callV (a := 0) (a' := 0) (As := [.ref (u36.2.2.1), .int (x1)]) (id := 56) (st := []) kX6_paidOf l_11_246 (by decide +kernel) (q_id_of rfl) rfl (Nat.le_of_ble_eq_true rfl) (s_mono h (s_I_of (fun v48 u49 h => ?_)) (fun _ _ h9 => h9))
        show s_Ex (d + 1) 0 mX11_light 118 [some (.ref (1)), some (.int (x1)), some (.int (x2))] [.int (v48)] u49 Q X
        exact s_retI .int (by decide +kernel) rfl rfl h
      · rcases j with _ | _ | _ | _ | j
        · cases hj
          replace h := h.2.1 (by omega)
          refine s_blk [(.aload_n 0, 1, 0, 0), (.getfield 56, 3, 11, 8), (.iload_n 1, 1, 0, 0)] 61 [some (.ref (1)), some (.int (x1)), some (.int (x2))] [.int (x1), .ref (56)] u36 [q_id 116 11 1] (by decide +kernel) (by refine qt_aload_n (r := 1) rfl ?_; refine qt_getR (r := 56) rfl rfl rfl ?_; refine qt_iload_n (x := x1) rfl ?_; exact qt_z rfl rfl rfl rfl rfl) (q_id_of rfl) ?_
          refine s_callV (a := 0) (a' := 0) (As := [.int (x1)]) (id := 56) (st := []) kX6_unspent l_11_234 (by decide +kernel) (q_id_of rfl) rfl (Nat.le_of_ble_eq_true rfl) (s_mono h (s_I_of (fun v37 u38 h => ?_)) (fun _ _ h9 => h9))
          show s_Ex (d + 1) 0 mX11_light 64 [some (.ref (1)), some (.int (x1)), some (.int (x2))] [.int (v37)] u38 Q X
          exact s_retI .int (by decide +kernel) rfl rfl h
        · cases hj
          replace h := h.2.2.1 (by omega)
          obtain ⟨ho41, h⟩ := h
          obtain ⟨ho42, h⟩ := h
          obtain ⟨ho43, h⟩ := h
          refine s_blk [(.aload_n 0, 1, 0, 0), (.getfield 19, 3, 11, 1), (.getfield 237, 3, 2, 13), (.iload_n 1, 1, 0, 0), (.iaload, 1, 0, 0), (.aload_n 0, 1, 0, 0), (.getfield 56, 3, 11, 8), (.iload_n 1, 1, 0, 0)] 79 [some (.ref (1)), some (.int (x1)), some (.int (x2))] [.int (x1), .ref (56), .int (u36.1 ((u36.2.2.1) + 11) (Int32.toNatClampNeg x1))] u36 [q_id 116 11 1, q_id 116 2 (u36.2.2.1), q_id 116 14 ((u36.2.2.1) + 11), vp_in x1 (q_sh ((u36.2.2.1) + 11)).2, q_id 116 11 1] (by decide +kernel) (by refine qt_aload_n (r := 1) rfl ?_; refine qt_getR (r := u36.2.2.1) rfl rfl rfl ?_; refine qt_getR (r := (u36.2.2.1) + 11) rfl rfl rfl ?_; refine qt_iload_n (x := x1) rfl ?_; refine qt_iald ?_; refine qt_aload_n (r := 1) rfl ?_; refine qt_getR (r := 56) rfl rfl rfl ?_; refine qt_iload_n (x := x1) rfl ?_; exact qt_z rfl rfl rfl rfl rfl) ⟨(q_id_of rfl), ho41, ho42, ho43, (q_id_of rfl)⟩ ?_
          refine s_callV (a := 0) (a' := 0) (As := [.int (x1)]) (id := 56) (st := [.int (u36.1 ((u36.2.2.1) + 11) (Int32.toNatClampNeg x1))]) kX6_lent l_11_240 (by decide +kernel) (q_id_of rfl) rfl (Nat.le_of_ble_eq_true rfl) (s_mono h (s_I_of (fun v39 u40 h => ?_)) (fun _ _ h9 => h9))
          show s_Ex (d + 1) 0 mX11_light 82 [some (.ref (1)), some (.int (x1)), some (.int (x2))] [.int (v39), .int (u36.1 ((u36.2.2.1) + 11) (Int32.toNatClampNeg x1))] u40 Q X
          refine s_blk [(.isub, 1, 0, 0)] 83 [some (.ref (1)), some (.int (x1)), some (.int (x2))] [.int ((u36.1 ((u36.2.2.1) + 11) (Int32.toNatClampNeg x1)) - v39)] u40 [] (by decide +kernel) (by refine qt_isub ?_; exact qt_z rfl rfl rfl rfl rfl) trivial ?_
          exact s_retI .int (by decide +kernel) rfl rfl h
        · cases hj
          replace h := h.2.2.2.1 (by omega)
          refine s_blk [(.aload_n 0, 1, 0, 0), (.getfield 56, 3, 11, 8), (.iload_n 1, 1, 0, 0)] 89 [some (.ref (1)), some (.int (x1)), some (.int (x2))] [.int (x1), .ref (56)] u36 [q_id 116 11 1] (by decide +kernel) (by refine qt_aload_n (r := 1) rfl ?_; refine qt_getR (r := 56) rfl rfl rfl ?_; refine qt_iload_n (x := x1) rfl ?_; exact qt_z rfl rfl rfl rfl rfl) (q_id_of rfl) ?_
          refine s_callV (a := 0) (a' := 0) (As := [.int (x1)]) (id := 56) (st := []) kX6_lent l_11_240 (by decide +kernel) (q_id_of rfl) rfl (Nat.le_of_ble_eq_true rfl) (s_mono h (s_I_of (fun v44 u45 h => ?_)) (fun _ _ h9 => h9))
          show s_Ex (d + 1) 0 mX11_light 92 [some (.ref (1)), some (.int (x1)), some (.int (x2))] [.int (v44)] u45 Q X
          exact s_retI .int (by decide +kernel) rfl rfl h
        · cases hj
          replace h := h.2.2.2.2 (by omega)
          refine s_blk [(.aload_n 0, 1, 0, 0), (.getfield 56, 3, 11, 8), (.aload_n 0, 1, 0, 0), (.getfield 19, 3, 11, 1), (.iload_n 1, 1, 0, 0)] 102 [some (.ref (1)), some (.int (x1)), some (.int (x2))] [.int (x1), .ref (u36.2.2.1), .ref (56)] u36 [q_id 116 11 1, q_id 116 11 1] (by decide +kernel) (by refine qt_aload_n (r := 1) rfl ?_; refine qt_getR (r := 56) rfl rfl rfl ?_; refine qt_aload_n (r := 1) rfl ?_; refine qt_getR (r := u36.2.2.1) rfl rfl rfl ?_; refine qt_iload_n (x := x1) rfl ?_; exact qt_z rfl rfl rfl rfl rfl) ⟨(q_id_of rfl), (q_id_of rfl)⟩ ?_
          refine s_callV (a := 0) (a' := 0) (As := [.ref (u36.2.2.1), .int (x1)]) (id := 56) (st := []) kX6_owedOf l_11_243 (by decide +kernel) (q_id_of rfl) rfl (Nat.le_of_ble_eq_true rfl) (s_mono h (s_I_of (fun v46 u47 h => ?_)) (fun _ _ h9 => h9))
          show s_Ex (d + 1) 0 mX11_light 105 [some (.ref (1)), some (.int (x1)), some (.int (x2))] [.int (v46)] u47 Q X
          exact s_retI .int (by decide +kernel) rfl rfl h
        · simp at hj
theorem eX11_light {d : Nat} {x1 : Int32} {x2 : Int32} {w : q_Sm} {Q : s_Po} {X : s_Xo} (h : vX11_light_0 d x1 x2 w Q X) : s_Ev (d + 1) 1 mX11_light w [.ref (1), .int (x1), .int (x2)] Q X := s_of (by decide +kernel) rfl (Nat.le_of_ble_eq_true rfl) (xX11_light_0 h)
