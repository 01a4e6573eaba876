def vX2_readDebt_0 (d : Nat) (o0 : Nat) (w : q_Sm) (Q : s_Po) (X : s_Xo) : Prop := (q_id 116 2 o0) ∧ s_EvI d 0 mX10_number w [.ref (2), .int (0), .int ((w.1 o0 0) - 1)] (fun v1 u2 => s_EvI d 0 mX10_colour u2 [.ref (2)] (fun v3 u4 => s_EvI d 0 mX10_number u4 [.ref (2), .int (1), .int (99)] (fun v5 u6 => s_EvI d 0 mX10_number u6 [.ref (2), .int (0), .int (16)] (fun v7 u8 => s_EvI d 0 mX10_number u8 [.ref (2), .int (0), .int (60)] (fun v9 u10 => s_EvI d 0 mX10_failed u10 [.ref (2)] (fun v11 u12 => ((¬ v11 = 0) → Q none u12) ∧ (¬ (¬ v11 = 0) → (q_id 116 2 o0) ∧ ((10 ≤ (u12.1 o0 3)) → Q none u12) ∧ (¬ (10 ≤ (u12.1 o0 3)) → (q_id 116 2 o0) ∧ (q_id 116 2 o0) ∧ (q_id 116 14 (o0 + 3)) ∧ (vp_in (u12.1 o0 3) (q_sh (o0 + 3)).2) ∧ ∀ w_13 : q_Sm, w_13 = q_wI u12 (o0 + 3) (Int32.toNatClampNeg (u12.1 o0 3)) v1 → (q_id 116 2 o0) ∧ (q_id 116 2 o0) ∧ (q_id 116 14 (o0 + 4)) ∧ (vp_in (w_13.1 o0 3) (q_sh (o0 + 4)).2) ∧ ∀ w_14 : q_Sm, w_14 = q_wI w_13 (o0 + 4) (Int32.toNatClampNeg (w_13.1 o0 3)) v3 → (q_id 116 2 o0) ∧ (q_id 116 2 o0) ∧ (q_id 116 14 (o0 + 5)) ∧ (vp_in (w_14.1 o0 3) (q_sh (o0 + 5)).2) ∧ ∀ w_15 : q_Sm, w_15 = q_wI w_14 (o0 + 5) (Int32.toNatClampNeg (w_14.1 o0 3)) v5 → (q_id 116 2 o0) ∧ (q_id 116 2 o0) ∧ (q_id 116 14 (o0 + 6)) ∧ (vp_in (w_15.1 o0 3) (q_sh (o0 + 6)).2) ∧ ∀ w_16 : q_Sm, w_16 = q_wI w_15 (o0 + 6) (Int32.toNatClampNeg (w_15.1 o0 3)) v7 → (q_id 116 2 o0) ∧ (q_id 116 2 o0) ∧ (q_id 116 14 (o0 + 7)) ∧ (vp_in (w_16.1 o0 3) (q_sh (o0 + 7)).2) ∧ ∀ w_17 : q_Sm, w_17 = q_wI w_16 (o0 + 7) (Int32.toNatClampNeg (w_16.1 o0 3)) v9 → (q_id 116 2 o0) ∧ (q_id 116 2 o0) ∧ ∀ w_18 : q_Sm, w_18 = q_wI w_17 o0 3 ((w_17.1 o0 3) + 1) → Q none w_18))) X) X) X) X) X) X
theorem xX2_readDebt_0 {d : Nat} {o0 : Nat} {w : q_Sm} {Q : s_Po} {X : s_Xo} (h : vX2_readDebt_0 d o0 w Q X) : s_Ex (d + 1) 0 mX2_readDebt 0 [some (.ref (o0)), some (.ref (2)), none, none, none, none, none] [] w Q X := by
  unfold vX2_readDebt_0 at h
  obtain ⟨ho42, h⟩ := h
  refine s_blk [(.aload_n 1, 1, 0, 0), (.iconst 0, 1, 0, 0), (.aload_n 0, 1, 0, 0), (.getfield 77, 3, 2, 0), (.iconst 1, 1, 0, 0), (.isub, 1, 0, 0)] 8 [some (.ref (o0)), some (.ref (2)), none, none, none, none, none] [.int ((w.1 o0 0) - 1), .int (0), .ref (2)] w [q_id 116 2 o0] (by decide +kernel) (by refine qt_aload_n (r := 2) rfl ?_; refine qt_iconst qc_0 ?_; refine qt_aload_n (r := o0) rfl ?_; refine qt_getI rfl rfl ?_; refine qt_iconst qc_1 ?_; refine qt_isub ?_; exact qt_z rfl rfl rfl rfl rfl) ho42 ?_
  refine s_callV (a := 0) (a' := 0) (As := [.int (0), .int ((w.1 o0 0) - 1)]) (id := 2) (st := []) kX10_number l_2_156 (by decide +kernel) (q_id_of rfl) rfl (Nat.le_of_ble_eq_true rfl) (s_mono h (s_I_of (fun v1 u2 h => ?_)) (fun _ _ h9 => h9))
  show s_Ex (d + 1) 0 mX2_readDebt 11 [some (.ref (o0)), some (.ref (2)), none, none, none, none, none] [.int (v1)] u2 Q X
  refine s_blk [(.istore_n 2, 1, 0, 0), (.aload_n 1, 1, 0, 0)] 13 [some (.ref (o0)), some (.ref (2)), some (.int (v1)), none, none, none, none] [.ref (2)] u2 [] (by decide +kernel) (by refine qt_istore_n (L' := [some (.ref (o0)), some (.ref (2)), some (.int (v1)), none, none, none, none]) rfl ?_; refine qt_aload_n (r := 2) rfl ?_; exact qt_z rfl rfl rfl rfl rfl) trivial ?_
  refine s_callV (a := 0) (a' := 0) (As := []) (id := 2) (st := []) kX10_colour l_2_163 (by decide +kernel) (q_id_of rfl) rfl (Nat.le_of_ble_eq_true rfl) (s_mono h (s_I_of (fun v3 u4 h => ?_)) (fun _ _ h9 => h9))
  show s_Ex (d + 1) 0 mX2_readDebt 16 [some (.ref (o0)), some (.ref (2)), some (.int (v1)), none, none, none, none] [.int (v3)] u4 Q X
  refine s_blk [(.istore_n 3, 1, 0, 0), (.aload_n 1, 1, 0, 0), (.iconst 1, 1, 0, 0), (.bipush 99, 2, 0, 0)] 21 [some (.ref (o0)), some (.ref (2)), some (.int (v1)), some (.int (v3)), none, none, none] [.int (99), .int (1), .ref (2)] u4 [] (by decide +kernel) (by refine qt_istore_n (L' := [some (.ref (o0)), some (.ref (2)), some (.int (v1)), some (.int (v3)), none, none, none]) rfl ?_; refine qt_aload_n (r := 2) rfl ?_; refine qt_iconst qc_1 ?_; refine qt_bipush qb_99 ?_; exact qt_z rfl rfl rfl rfl rfl) trivial ?_
  refine s_callV (a := 0) (a' := 0) (As := [.int (1), .int (99)]) (id := 2) (st := []) kX10_number l_2_156 (by decide +kernel) (q_id_of rfl) rfl (Nat.le_of_ble_eq_true rfl) (s_mono h (s_I_of (fun v5 u6 h => ?_)) (fun _ _ h9 => h9))
  show s_Ex (d + 1) 0 mX2_readDebt 24 [some (.ref (o0)), some (.ref (2)), some (.int (v1)), some (.int (v3)), none, none, none] [.int (v5)] u6 Q X
  refine s_blk [(.istore 4, 2, 0, 0), (.aload_n 1, 1, 0, 0), (.iconst 0, 1, 0, 0), (.bipush 16, 2, 0, 0)] 30 [some (.ref (o0)), some (.ref (2)), some (.int (v1)), some (.int (v3)), some (.int (v5)), none, none] [.int (16), .int (0), .ref (2)] u6 [] (by decide +kernel) (by refine qt_istore (L' := [some (.ref (o0)), some (.ref (2)), some (.int (v1)), some (.int (v3)), some (.int (v5)), none, none]) rfl ?_; refine qt_aload_n (r := 2) rfl ?_; refine qt_iconst qc_0 ?_; refine qt_bipush qb_16 ?_; exact qt_z rfl rfl rfl rfl rfl) trivial ?_
  refine s_callV (a := 0) (a' := 0) (As := [.int (0), .int (16)]) (id := 2) (st := []) kX10_number l_2_156 (by decide +kernel) (q_id_of rfl) rfl (Nat.le_of_ble_eq_true rfl) (s_mono h (s_I_of (fun v7 u8 h => ?_)) (fun _ _ h9 => h9))
  show s_Ex (d + 1) 0 mX2_readDebt 33 [some (.ref (o0)), some (.ref (2)), some (.int (v1)), some (.int (v3)), some (.int (v5)), none, none] [.int (v7)] u8 Q X
  refine s_blk [(.istore 5, 2, 0, 0), (.aload_n 1, 1, 0, 0), (.iconst 0, 1, 0, 0), (.bipush 60, 2, 0, 0)] 39 [some (.ref (o0)), some (.ref (2)), some (.int (v1)), some (.int (v3)), some (.int (v5)), some (.int (v7)), none] [.int (60), .int (0), .ref (2)] u8 [] (by decide +kernel) (by refine qt_istore (L' := [some (.ref (o0)), some (.ref (2)), some (.int (v1)), some (.int (v3)), some (.int (v5)), some (.int (v7)), none]) rfl ?_; refine qt_aload_n (r := 2) rfl ?_; refine qt_iconst qc_0 ?_; refine qt_bipush qb_60 ?_; exact qt_z rfl rfl rfl rfl rfl) trivial ?_
  refine s_callV (a := 0) (a' := 0) (As := [.int (0), .int (60)]) (id := 2) (st := []) kX10_number l_2_156 (by decide +kernel) (q_id_of rfl) rfl (Nat.le_of_ble_eq_true rfl) (s_mono h (s_I_of (fun v9 u10 h => ?_)) (fun _ _ h9 => h9))
  show s_Ex (d + 1) 0 mX2_readDebt 42 [some (.ref (o0)), some (.ref (2)), some (.int (v1)), some (.int (v3)), some (.int (v5)), some (.int (v7)), none] [.int (v9)] u10 Q X
  refine s_blk [(.istore 6, 2, 0, 0), (.aload_n 1, 1, 0, 0)] 45 [some (.ref (o0)), some (.ref (2)), some (.int (v1)), some (.int (v3)), some (.int (v5)), some (.int (v7)), some (.int (v9))] [.ref (2)] u10 [] (by decide +kernel) (by refine qt_istore (L' := [some (.ref (o0)), some (.ref (2)), some (.int (v1)), some (.int (v3)), some (.int (v5)), some (.int (v7)), some (.int (v9))]) rfl ?_; refine qt_aload_n (r := 2) rfl ?_; exact qt_z rfl rfl rfl rfl rfl) trivial ?_
  refine s_callV (a := 0) (a' := 0) (As := []) (id := 2) (st := []) kX10_failed l_2_160 (by decide +kernel) (q_id_of rfl) rfl (Nat.le_of_ble_eq_true rfl) (s_mono h (s_I_of (fun v11 u12 h => ?_)) (fun _ _ h9 => h9))
  show s_Ex (d + 1) 0 mX2_readDebt 48 [some (.ref (o0)), some (.ref (2)), some (.int (v1)), some (.int (v3)), some (.int (v5)), some (.int (v7)), some (.int (v9))] [.int (v11)] u12 Q X
  refine s_if (cd := .ne) (off := 75) 123 (by decide +kernel) (by decide) (fun hc => ?_) (fun hc => ?_)
  · replace h := h.1 hc
    exact s_retV (by decide +kernel) rfl h
  · replace h := h.2 hc
    obtain ⟨ho41, h⟩ := h
    refine s_blk [(.aload_n 0, 1, 0, 0), (.getfield 81, 3, 2, 3), (.bipush 10, 2, 0, 0)] 57 [some (.ref (o0)), some (.ref (2)), some (.int (v1)), some (.int (v3)), some (.int (v5)), some (.int (v7)), some (.int (v9))] [.int (10), .int (u12.1 o0 3)] u12 [q_id 116 2 o0] (by decide +kernel) (by refine qt_aload_n (r := o0) rfl ?_; refine qt_getI rfl rfl ?_; refine qt_bipush qb_10 ?_; exact qt_z rfl rfl rfl rfl rfl) ho41 ?_
    refine s_icmp (cd := .ge) (off := 66) 123 (by decide +kernel) (by decide) (fun hc => ?_) (fun hc => ?_)
    · replace h := h.1 hc
      exact s_retV (by decide +kernel) rfl h
    · replace h := h.2 hc
      obtain ⟨ho19, h⟩ := h
      obtain ⟨ho20, h⟩ := h
      obtain ⟨ho21, h⟩ := h
      obtain ⟨ho22, h⟩ := h
      replace h := h _ rfl
      obtain ⟨ho23, h⟩ := h
      obtain ⟨ho24, h⟩ := h
      obtain ⟨ho25, h⟩ := h
      obtain ⟨ho26, h⟩ := h
      replace h := h _ rfl
      obtain ⟨ho27, h⟩ := h
      obtain ⟨ho28, h⟩ := h
      obtain ⟨ho29, h⟩ := h
      obtain ⟨ho30, h⟩ := h
      replace h := h _ rfl
      obtain ⟨ho31, h⟩ := h
      obtain ⟨ho32, h⟩ := h
      obtain ⟨ho33, h⟩ := h
      obtain ⟨ho34, h⟩ := h
      replace h := h _ rfl
      obtain ⟨ho35, h⟩ := h
      obtain ⟨ho36, h⟩ := h
      obtain ⟨ho37, h⟩ := h
      obtain ⟨ho38, h⟩ := h
      replace h := h _ rfl
      obtain ⟨ho39, h⟩ := h
      obtain ⟨ho40, h⟩ := h
      replace h := h _ rfl
      refine s_blk [(.aload_n 0, 1, 0, 0), (.getfield 18, 3, 2, 4), (.aload_n 0, 1, 0, 0), (.getfield 81, 3, 2, 3), (.iload_n 2, 1, 0, 0), (.iastore, 1, 0, 0), (.aload_n 0, 1, 0, 0), (.getfield 21, 3, 2, 5), (.aload_n 0, 1, 0, 0), (.getfield 81, 3, 2, 3), (.iload_n 3, 1, 0, 0), (.iastore, 1, 0, 0), (.aload_n 0, 1, 0, 0), (.getfield 24, 3, 2, 6), (.aload_n 0, 1, 0, 0), (.getfield 81, 3, 2, 3), (.iload 4, 2, 0, 0), (.iastore, 1, 0, 0), (.aload_n 0, 1, 0, 0), (.getfield 27, 3, 2, 7), (.aload_n 0, 1, 0, 0), (.getfield 81, 3, 2, 3), (.iload 5, 2, 0, 0), (.iastore, 1, 0, 0), (.aload_n 0, 1, 0, 0), (.getfield 30, 3, 2, 8), (.aload_n 0, 1, 0, 0), (.getfield 81, 3, 2, 3), (.iload 6, 2, 0, 0), (.iastore, 1, 0, 0), (.aload_n 0, 1, 0, 0), (.dup, 1, 0, 0), (.getfield 81, 3, 2, 3), (.iconst 1, 1, 0, 0), (.iadd, 1, 0, 0), (.putfield 81, 3, 2, 3)] 123 [some (.ref (o0)), some (.ref (2)), some (.int (v1)), some (.int (v3)), some (.int (v5)), some (.int (v7)), some (.int (v9))] [] (q_wI (q_wI (q_wI (q_wI (q_wI (q_wI u12 (o0 + 3) (Int32.toNatClampNeg (u12.1 o0 3)) v1) (o0 + 4) (Int32.toNatClampNeg ((q_wI u12 (o0 + 3) (Int32.toNatClampNeg (u12.1 o0 3)) v1).1 o0 3)) v3) (o0 + 5) (Int32.toNatClampNeg ((q_wI (q_wI u12 (o0 + 3) (Int32.toNatClampNeg (u12.1 o0 3)) v1) (o0 + 4) (Int32.toNatClampNeg ((q_wI u12 (o0 + 3) (Int32.toNatClampNeg (u12.1 o0 3)) v1).1 o0 3)) v3).1 o0 3)) v5) (o0 + 6) (Int32.toNatClampNeg ((q_wI (q_wI (q_wI u12 (o0 + 3) (Int32.toNatClampNeg (u12.1 o0 3)) v1) (o0 + 4) (Int32.toNatClampNeg ((q_wI u12 (o0 + 3) (Int32.toNatClampNeg (u12.1 o0 3)) v1).1 o0 3)) v3) (o0 + 5) (Int32.toNatClampNeg ((q_wI (q_wI u12 (o0 + 3) (Int32.toNatClampNeg (u12.1 o0 3)) v1) (o0 + 4) (Int32.toNatClampNeg ((q_wI u12 (o0 + 3) (Int32.toNatClampNeg (u12.1 o0 3)) v1).1 o0 3)) v3).1 o0 3)) v5).1 o0 3)) v7) (o0 + 7) (Int32.toNatClampNeg ((q_wI (q_wI (q_wI (q_wI u12 (o0 + 3) (Int32.toNatClampNeg (u12.1 o0 3)) v1) (o0 + 4) (Int32.toNatClampNeg ((q_wI u12 (o0 + 3) (Int32.toNatClampNeg (u12.1 o0 3)) v1).1 o0 3)) v3) (o0 + 5) (Int32.toNatClampNeg ((q_wI (q_wI u12 (o0 + 3) (Int32.toNatClampNeg (u12.1 o0 3)) v1) (o0 + 4) (Int32.toNatClampNeg ((q_wI u12 (o0 + 3) (Int32.toNatClampNeg (u12.1 o0 3)) v1).1 o0 3)) v3).1 o0 3)) v5) (o0 + 6) (Int32.toNatClampNeg ((q_wI (q_wI (q_wI u12 (o0 + 3) (Int32.toNatClampNeg (u12.1 o0 3)) v1) (o0 + 4) (Int32.toNatClampNeg ((q_wI u12 (o0 + 3) (Int32.toNatClampNeg (u12.1 o0 3)) v1).1 o0 3)) v3) (o0 + 5) (Int32.toNatClampNeg ((q_wI (q_wI u12 (o0 + 3) (Int32.toNatClampNeg (u12.1 o0 3)) v1) (o0 + 4) (Int32.toNatClampNeg ((q_wI u12 (o0 + 3) (Int32.toNatClampNeg (u12.1 o0 3)) v1).1 o0 3)) v3).1 o0 3)) v5).1 o0 3)) v7).1 o0 3)) v9) o0 3 (((q_wI (q_wI (q_wI (q_wI (q_wI u12 (o0 + 3) (Int32.toNatClampNeg (u12.1 o0 3)) v1) (o0 + 4) (Int32.toNatClampNeg ((q_wI u12 (o0 + 3) (Int32.toNatClampNeg (u12.1 o0 3)) v1).1 o0 3)) v3) (o0 + 5) (Int32.toNatClampNeg ((q_wI (q_wI u12 (o0 + 3) (Int32.toNatClampNeg (u12.1 o0 3)) v1) (o0 + 4) (Int32.toNatClampNeg ((q_wI u12 (o0 + 3) (Int32.toNatClampNeg (u12.1 o0 3)) v1).1 o0 3)) v3).1 o0 3)) v5) (o0 + 6) (Int32.toNatClampNeg ((q_wI (q_wI (q_wI u12 (o0 + 3) (Int32.toNatClampNeg (u12.1 o0 3)) v1) (o0 + 4) (Int32.toNatClampNeg ((q_wI u12 (o0 + 3) (Int32.toNatClampNeg (u12.1 o0 3)) v1).1 o0 3)) v3) (o0 + 5) (Int32.toNatClampNeg ((q_wI (q_wI u12 (o0 + 3) (Int32.toNatClampNeg (u12.1 o0 3)) v1) (o0 + 4) (Int32.toNatClampNeg ((q_wI u12 (o0 + 3) (Int32.toNatClampNeg (u12.1 o0 3)) v1).1 o0 3)) v3).1 o0 3)) v5).1 o0 3)) v7) (o0 + 7) (Int32.toNatClampNeg ((q_wI (q_wI (q_wI (q_wI u12 (o0 + 3) (Int32.toNatClampNeg (u12.1 o0 3)) v1) (o0 + 4) (Int32.toNatClampNeg ((q_wI u12 (o0 + 3) (Int32.toNatClampNeg (u12.1 o0 3)) v1).1 o0 3)) v3) (o0 + 5) (Int32.toNatClampNeg ((q_wI (q_wI u12 (o0 + 3) (Int32.toNatClampNeg (u12.1 o0 3)) v1) (o0 + 4) (Int32.toNatClampNeg ((q_wI u12 (o0 + 3) (Int32.toNatClampNeg (u12.1 o0 3)) v1).1 o0 3)) v3).1 o0 3)) v5) (o0 + 6) (Int32.toNatClampNeg ((q_wI (q_wI (q_wI u12 (o0 + 3) (Int32.toNatClampNeg (u12.1 o0 3)) v1) (o0 + 4) (Int32.toNatClampNeg ((q_wI u12 (o0 + 3) (Int32.toNatClampNeg (u12.1 o0 3)) v1).1 o0 3)) v3) (o0 + 5) (Int32.toNatClampNeg ((q_wI (q_wI u12 (o0 + 3) (Int32.toNatClampNeg (u12.1 o0 3)) v1) (o0 + 4) (Int32.toNatClampNeg ((q_wI u12 (o0 + 3) (Int32.toNatClampNeg (u12.1 o0 3)) v1).1 o0 3)) v3).1 o0 3)) v5).1 o0 3)) v7).1 o0 3)) v9).1 o0 3) + 1)) [q_id 116 2 o0, q_id 116 2 o0, q_id 116 14 (o0 + 3), vp_in (u12.1 o0 3) (q_sh (o0 + 3)).2, q_id 116 2 o0, q_id 116 2 o0, q_id 116 14 (o0 + 4), vp_in ((q_wI u12 (o0 + 3) (Int32.toNatClampNeg (u12.1 o0 3)) v1).1 o0 3) (q_sh (o0 + 4)).2, q_id 116 2 o0, q_id 116 2 o0, q_id 116 14 (o0 + 5), vp_in ((q_wI (q_wI u12 (o0 + 3) (Int32.toNatClampNeg (u12.1 o0 3)) v1) (o0 + 4) (Int32.toNatClampNeg ((q_wI u12 (o0 + 3) (Int32.toNatClampNeg (u12.1 o0 3)) v1).1 o0 3)) v3).1 o0 3) (q_sh (o0 + 5)).2, q_id 116 2 o0, q_id 116 2 o0, q_id 116 14 (o0 + 6), vp_in ((q_wI (q_wI (q_wI u12 (o0 + 3) (Int32.toNatClampNeg (u12.1 o0 3)) v1) (o0 + 4) (Int32.toNatClampNeg ((q_wI u12 (o0 + 3) (Int32.toNatClampNeg (u12.1 o0 3)) v1).1 o0 3)) v3) (o0 + 5) (Int32.toNatClampNeg ((q_wI (q_wI u12 (o0 + 3) (Int32.toNatClampNeg (u12.1 o0 3)) v1) (o0 + 4) (Int32.toNatClampNeg ((q_wI u12 (o0 + 3) (Int32.toNatClampNeg (u12.1 o0 3)) v1).1 o0 3)) v3).1 o0 3)) v5).1 o0 3) (q_sh (o0 + 6)).2, q_id 116 2 o0, q_id 116 2 o0, q_id 116 14 (o0 + 7), vp_in ((q_wI (q_wI (q_wI (q_wI u12 (o0 + 3) (Int32.toNatClampNeg (u12.1 o0 3)) v1) (o0 + 4) (Int32.toNatClampNeg ((q_wI u12 (o0 + 3) (Int32.toNatClampNeg (u12.1 o0 3)) v1).1 o0 3)) v3) (o0 + 5) (Int32.toNatClampNeg ((q_wI (q_wI u12 (o0 + 3) (Int32.toNatClampNeg (u12.1 o0 3)) v1) (o0 + 4) (Int32.toNatClampNeg ((q_wI u12 (o0 + 3) (Int32.toNatClampNeg (u12.1 o0 3)) v1).1 o0 3)) v3).1 o0 3)) v5) (o0 + 6) (Int32.toNatClampNeg ((q_wI (q_wI (q_wI u12 (o0 + 3) (Int32.toNatClampNeg (u12.1 o0 3)) v1) (o0 + 4) (Int32.toNatClampNeg ((q_wI u12 (o0 + 3) (Int32.toNatClampNeg (u12.1 o0 3)) v1).1 o0 3)) v3) (o0 + 5) (Int32.toNatClampNeg ((q_wI (q_wI u12 (o0 + 3) (Int32.toNatClampNeg (u12.1 o0 3)) v1) (o0 + 4) (Int32.toNatClampNeg ((q_wI u12 (o0 + 3) (Int32.toNatClampNeg (u12.1 o0 3)) v1).1 o0 3)) v3).1 o0 3)) v5).1 o0 3)) v7).1 o0 3) (q_sh (o0 + 7)).2, q_id 116 2 o0, q_id 116 2 o0] (by decide +kernel) (by refine qt_aload_n (r := o0) rfl ?_; refine qt_getR (r := o0 + 3) rfl rfl rfl ?_; refine qt_aload_n (r := o0) rfl ?_; refine qt_getI rfl rfl ?_; refine qt_iload_n (x := v1) rfl ?_; refine qt_iast ?_; refine qt_aload_n (r := o0) rfl ?_; refine qt_getR (r := o0 + 4) rfl rfl rfl ?_; refine qt_aload_n (r := o0) rfl ?_; refine qt_getI rfl rfl ?_; refine qt_iload_n (x := v3) rfl ?_; refine qt_iast ?_; refine qt_aload_n (r := o0) rfl ?_; refine qt_getR (r := o0 + 5) rfl rfl rfl ?_; refine qt_aload_n (r := o0) rfl ?_; refine qt_getI rfl rfl ?_; refine qt_iload (x := v5) rfl ?_; refine qt_iast ?_; refine qt_aload_n (r := o0) rfl ?_; refine qt_getR (r := o0 + 6) rfl rfl rfl ?_; refine qt_aload_n (r := o0) rfl ?_; refine qt_getI rfl rfl ?_; refine qt_iload (x := v7) rfl ?_; refine qt_iast ?_; refine qt_aload_n (r := o0) rfl ?_; refine qt_getR (r := o0 + 7) rfl rfl rfl ?_; refine qt_aload_n (r := o0) rfl ?_; refine qt_getI rfl rfl ?_; refine qt_iload (x := v9) rfl ?_; refine qt_iast ?_; refine qt_aload_n (r := o0) rfl ?_; refine qt_dupR ?_; refine qt_getI rfl rfl ?_; refine qt_iconst qc_1 ?_; refine qt_iadd ?_; refine qt_putI rfl ?_; exact qt_z rfl rfl rfl rfl rfl) ⟨ho19, ho20, ho21, ho22, ho23, ho24, ho25, ho26, ho27, ho28, ho29, ho30, ho31, ho32, ho33, ho34, ho35, ho36, ho37, ho38, ho39, ho40⟩ ?_
      exact s_retV (by decide +kernel) rfl h
theorem eX2_readDebt {d : Nat} {o0 : Nat} {w : q_Sm} {Q : s_Po} {X : s_Xo} (h : vX2_readDebt_0 d o0 w Q X) : s_Ev (d + 1) 0 mX2_readDebt w [.ref (o0), .ref (2)] Q X := s_of (by decide +kernel) rfl (Nat.le_of_ble_eq_true rfl) (xX2_readDebt_0 h)
def vX2_readDusk_0 (d : Nat) (o0 : Nat) (w : q_Sm) (Q : s_Po) (X : s_Xo) : Prop := s_Ex (d + 1) 0 mX2_readDusk 2 [some (.ref (o0)), some (.ref (2)), some (.int (0)), none] [] w Q X
def vX2_readDusk_2 (d : Nat) (o0 : Nat) (x2 : Int32) (w : q_Sm) (Q : s_Po) (X : s_Xo) : Prop := ((4 ≤ x2) → s_EvI d 0 mX10_failed w [.ref (2)] (fun v1 u2 => ((¬ v1 = 0) → Q none u2) ∧ (¬ (¬ v1 = 0) → (q_id 116 2 o0) ∧ ((12 ≤ (u2.1 o0 10)) → Q none u2) ∧ (¬ (12 ≤ (u2.1 o0 10)) → (q_id 116 2 o0) ∧ (q_id 116 2 o0) ∧ ∀ w_3 : q_Sm, w_3 = q_wI u2 o0 10 ((u2.1 o0 10) + 1) → Q none w_3))) X) ∧ (¬ (4 ≤ x2) → s_EvI d 0 mX10_number w [.ref (2), .int (0), .int (40)] (fun v7 u8 => (q_id 116 2 o0) ∧ ((12 ≤ (u8.1 o0 10)) → s_Ex (d + 1) 0 mX2_readDusk 2 [some (.ref (o0)), some (.ref (2)), some (.int (x2 + 1)), none] [] u8 Q X) ∧ (¬ (12 ≤ (u8.1 o0 10)) → (q_id 116 2 o0) ∧ (q_id 116 2 o0) ∧ (q_id 116 14 (o0 + 9)) ∧ (vp_in (((u8.1 o0 10) * 4) + x2) (q_sh (o0 + 9)).2) ∧ ∀ w_9 : q_Sm, w_9 = q_wI u8 (o0 + 9) (Int32.toNatClampNeg (((u8.1 o0 10) * 4) + x2)) v7 → s_Ex (d + 1) 0 mX2_readDusk 2 [some (.ref (o0)), some (.ref (2)), some (.int (x2 + 1)), none] [] w_9 Q X)) X)
theorem xX2_readDusk_0 {d : Nat} {o0 : Nat} {w : q_Sm} {Q : s_Po} {X : s_Xo} (h : vX2_readDusk_0 d o0 w Q X) : s_Ex (d + 1) 0 mX2_readDusk 0 [some (.ref (o0)), some (.ref (2)), none, none] [] w Q X := by
  unfold vX2_readDusk_0 at h
  refine s_blk [(.iconst 0, 1, 0, 0), (.istore_n 2, 1, 0, 0)] 2 [some (.ref (o0)), some (.ref (2)), some (.int (0)), none] [] w [] (by decide +kernel) (by refine qt_iconst qc_0 ?_; refine qt_istore_n (L' := [some (.ref (o0)), some (.ref (2)), some (.int (0)), none]) rfl ?_; exact qt_z rfl rfl rfl rfl rfl) trivial ?_
  exact h
theorem xX2_readDusk_2 {d : Nat} {o0 : Nat} {x2 : Int32} {w : q_Sm} {Q : s_Po} {X : s_Xo} (h : vX2_readDusk_2 d o0 x2 w Q X) : s_Ex (d + 1) 0 mX2_readDusk 2 [some (.ref (o0)), some (.ref (2)), some (.int (x2)), none] [] w Q X := by
  unfold vX2_readDusk_2 at h
  refine s_blk [(.iload_n 2, 1, 0, 0), (.iconst 4, 1, 0, 0)] 4 [some (.ref (o0)), some (.ref (2)), some (.int (x2)), none] [.int (4), .int (x2)] w [] (by decide +kernel) (by refine qt_iload_n (x := x2) rfl ?_; refine qt_iconst qc_4 ?_; exact qt_z rfl rfl rfl rfl rfl) trivial ?_
  refine s_icmp (cd := .ge) (off := 40) 44 (by decide +kernel) (by decide) (fun hc => ?_) (fun hc => ?_)
  · replace h := h.1 hc
    refine s_blk [(.aload_n 1, 1, 0, 0)] 45 [some (.ref (o0)), some (.ref (2)), some (.int (x2)), none] [.ref (2)] w [] (by decide +kernel) (by refine qt_aload_n (r := 2) rfl ?_; exact qt_z rfl rfl rfl rfl rfl) trivial ?_
    refine s_callV (a := 0) (a' := 0) (As := []) (id := 2) (st := []) kX10_failed l_2_160 (by decide +kernel) (q_id_of rfl) rfl (Nat.le_of_ble_eq_true rfl) (s_mono h (s_I_of (fun v1 u2 h => ?_)) (fun _ _ h9 => h9))
    show s_Ex (d + 1) 0 mX2_readDusk 48 [some (.ref (o0)), some (.ref (2)), some (.int (x2)), none] [.int (v1)] u2 Q X
    refine s_if (cd := .ne) (off := 22) 70 (by decide +kernel) (by decide) (fun hc => ?_) (fun hc => ?_)
    · replace h := h.1 hc
      exact s_retV (by decide +kernel) rfl h
    · replace h := h.2 hc
      obtain ⟨ho6, h⟩ := h
      refine s_blk [(.aload_n 0, 1, 0, 0), (.getfield 84, 3, 2, 10), (.bipush 12, 2, 0, 0)] 57 [some (.ref (o0)), some (.ref (2)), some (.int (x2)), none] [.int (12), .int (u2.1 o0 10)] u2 [q_id 116 2 o0] (by decide +kernel) (by refine qt_aload_n (r := o0) rfl ?_; refine qt_getI rfl rfl ?_; refine qt_bipush qb_12 ?_; exact qt_z rfl rfl rfl rfl rfl) ho6 ?_
      refine s_icmp (cd := .ge) (off := 13) 70 (by decide +kernel) (by decide) (fun hc => ?_) (fun hc => ?_)
      · replace h := h.1 hc
        exact s_retV (by decide +kernel) rfl h
      · replace h := h.2 hc
        obtain ⟨ho4, h⟩ := h
        obtain ⟨ho5, h⟩ := h
        replace h := h _ rfl
        refine s_blk [(.aload_n 0, 1, 0, 0), (.dup, 1, 0, 0), (.getfield 84, 3, 2, 10), (.iconst 1, 1, 0, 0), (.iadd, 1, 0, 0), (.putfield 84, 3, 2, 10)] 70 [some (.ref (o0)), some (.ref (2)), some (.int (x2)), none] [] (q_wI u2 o0 10 ((u2.1 o0 10) + 1)) [q_id 116 2 o0, q_id 116 2 o0] (by decide +kernel) (by refine qt_aload_n (r := o0) rfl ?_; refine qt_dupR ?_; refine qt_getI rfl rfl ?_; refine qt_iconst qc_1 ?_; refine qt_iadd ?_; refine qt_putI rfl ?_; exact qt_z rfl rfl rfl rfl rfl) ⟨ho4, ho5⟩ ?_
        exact s_retV (by decide +kernel) rfl h
  · replace h := h.2 hc
    refine s_blk [(.aload_n 1, 1, 0, 0), (.iconst 0, 1, 0, 0), (.bipush 40, 2, 0, 0)] 11 [some (.ref (o0)), some (.ref (2)), some (.int (x2)), none] [.int (40), .int (0), .ref (2)] w [] (by decide +kernel) (by refine qt_aload_n (r := 2) rfl ?_; refine qt_iconst qc_0 ?_; refine qt_bipush qb_40 ?_; exact qt_z rfl rfl rfl rfl rfl) trivial ?_
    refine s_callV (a := 0) (a' := 0) (As := [.int (0), .int (40)]) (id := 2) (st := []) kX10_number l_2_156 (by decide +kernel) (q_id_of rfl) rfl (Nat.le_of_ble_eq_true rfl) (s_mono h (s_I_of (fun v7 u8 h => ?_)) (fun _ _ h9 => h9))
    show s_Ex (d + 1) 0 mX2_readDusk 14 [some (.ref (o0)), some (.ref (2)), some (.int (x2)), none] [.int (v7)] u8 Q X
    obtain ⟨ho14, h⟩ := h
    refine s_blk [(.istore_n 3, 1, 0, 0), (.aload_n 0, 1, 0, 0), (.getfield 84, 3, 2, 10), (.bipush 12, 2, 0, 0)] 21 [some (.ref (o0)), some (.ref (2)), some (.int (x2)), some (.int (v7))] [.int (12), .int (u8.1 o0 10)] u8 [q_id 116 2 o0] (by decide +kernel) (by refine qt_istore_n (L' := [some (.ref (o0)), some (.ref (2)), some (.int (x2)), some (.int (v7))]) rfl ?_; refine qt_aload_n (r := o0) rfl ?_; refine qt_getI rfl rfl ?_; refine qt_bipush qb_12 ?_; exact qt_z rfl rfl rfl rfl rfl) ho14 ?_
    refine s_icmp (cd := .ge) (off := 17) 38 (by decide +kernel) (by decide) (fun hc => ?_) (fun hc => ?_)
    · replace h := h.1 hc
      refine s_blk [(.iinc 2 1, 3, 0, 0), (.goto (-39), 3, 2, 0), (.nop, 0, 3, 0)] 2 [some (.ref (o0)), some (.ref (2)), some (.int (x2 + 1)), none] [] u8 [] (by decide +kernel) (by refine qt_iinc (x := x2) (L' := [some (.ref (o0)), some (.ref (2)), some (.int (x2 + 1)), some (.int (v7))]) rfl qc_1 rfl ?_; refine qt_goto ?_; refine qt_nop (L' := [some (.ref (o0)), some (.ref (2)), some (.int (x2 + 1)), none]) rfl ?_; exact qt_z rfl rfl rfl rfl rfl) trivial ?_
      exact h
    · replace h := h.2 hc
      obtain ⟨ho10, h⟩ := h
      obtain ⟨ho11, h⟩ := h
      obtain ⟨ho12, h⟩ := h
      obtain ⟨ho13, h⟩ := h
      replace h := h _ rfl
      refine s_blk [(.aload_n 0, 1, 0, 0), (.getfield 36, 3, 2, 11), (.aload_n 0, 1, 0, 0), (.getfield 84, 3, 2, 10), (.iconst 4, 1, 0, 0), (.imul, 1, 0, 0), (.iload_n 2, 1, 0, 0), (.iadd, 1, 0, 0), (.iload_n 3, 1, 0, 0), (.iastore, 1, 0, 0), (.iinc 2 1, 3, 0, 0), (.goto (-39), 3, 2, 0), (.nop, 0, 3, 0)] 2 [some (.ref (o0)), some (.ref (2)), some (.int (x2 + 1)), none] [] (q_wI u8 (o0 + 9) (Int32.toNatClampNeg (((u8.1 o0 10) * 4) + x2)) v7) [q_id 116 2 o0, q_id 116 2 o0, q_id 116 14 (o0 + 9), vp_in (((u8.1 o0 10) * 4) + x2) (q_sh (o0 + 9)).2] (by decide +kernel) (by refine qt_aload_n (r := o0) rfl ?_; refine qt_getR (r := o0 + 9) rfl rfl rfl ?_; refine qt_aload_n (r := o0) rfl ?_; refine qt_getI rfl rfl ?_; refine qt_iconst qc_4 ?_; refine qt_imul ?_; refine qt_iload_n (x := x2) rfl ?_; refine qt_iadd ?_; refine qt_iload_n (x := v7) rfl ?_; refine qt_iast ?_; refine qt_iinc (x := x2) (L' := [some (.ref (o0)), some (.ref (2)), some (.int (x2 + 1)), some (.int (v7))]) rfl qc_1 rfl ?_; refine qt_goto ?_; refine qt_nop (L' := [some (.ref (o0)), some (.ref (2)), some (.int (x2 + 1)), none]) rfl ?_; exact qt_z rfl rfl rfl rfl rfl) ⟨ho10, ho11, ho12, ho13⟩ ?_
      exact h
theorem eX2_readDusk {d : Nat} {o0 : Nat} {w : q_Sm} {Q : s_Po} {X : s_Xo} (h : vX2_readDusk_0 d o0 w Q X) : s_Ev (d + 1) 0 mX2_readDusk w [.ref (o0), .ref (2)] Q X := s_of (by decide +kernel) rfl (Nat.le_of_ble_eq_true rfl) (xX2_readDusk_0 h)
def vX2_readRidge_0 (d : Nat) (o0 : Nat) (w : q_Sm) (Q : s_Po) (X : s_Xo) : Prop := s_EvI d 0 mX10_number w [.ref (2), .int (0), .int (19)] (fun v1 u2 => s_EvI d 0 mX10_number u2 [.ref (2), .int (0), .int (20)] (fun v3 u4 => s_EvI d 0 mX10_failed u4 [.ref (2)] (fun v5 u6 => ((¬ v5 = 0) → Q none u6) ∧ (¬ (¬ v5 = 0) → (q_id 116 2 o0) ∧ (q_id 116 14 (o0 + 10)) ∧ (vp_in v1 (q_sh (o0 + 10)).2) ∧ ∀ w_7 : q_Sm, w_7 = q_wI u6 (o0 + 10) (Int32.toNatClampNeg v1) v3 → Q none w_7)) X) X) X
theorem xX2_readRidge_0 {d : Nat} {o0 : Nat} {w : q_Sm} {Q : s_Po} {X : s_Xo} (h : vX2_readRidge_0 d o0 w Q X) : s_Ex (d + 1) 0 mX2_readRidge 0 [some (.ref (o0)), some (.ref (2)), none, none] [] w Q X := by
  unfold vX2_readRidge_0 at h
  refine s_blk [(.aload_n 1, 1, 0, 0), (.iconst 0, 1, 0, 0), (.bipush 19, 2, 0, 0)] 4 [some (.ref (o0)), some (.ref (2)), none, none] [.int (19), .int (0), .ref (2)] w [] (by decide +kernel) (by refine qt_aload_n (r := 2) rfl ?_; refine qt_iconst qc_0 ?_; refine qt_bipush qb_19 ?_; exact qt_z rfl rfl rfl rfl rfl) trivial ?_
  refine s_callV (a := 0) (a' := 0) (As := [.int (0), .int (19)]) (id := 2) (st := []) kX10_number l_2_156 (by decide +kernel) (q_id_of rfl) rfl (Nat.le_of_ble_eq_true rfl) (s_mono h (s_I_of (fun v1 u2 h => ?_)) (fun _ _ h9 => h9))
  show s_Ex (d + 1) 0 mX2_readRidge 7 [some (.ref (o0)), some (.ref (2)), none, none] [.int (v1)] u2 Q X
  refine s_blk [(.istore_n 2, 1, 0, 0), (.aload_n 1, 1, 0, 0), (.iconst 0, 1, 0, 0), (.bipush 20, 2, 0, 0)] 12 [some (.ref (o0)), some (.ref (2)), some (.int (v1)), none] [.int (20), .int (0), .ref (2)] u2 [] (by decide +kernel) (by refine qt_istore_n (L' := [some (.ref (o0)), some (.ref (2)), some (.int (v1)), none]) rfl ?_; refine qt_aload_n (r := 2) rfl ?_; refine qt_iconst qc_0 ?_; refine qt_bipush qb_20 ?_; exact qt_z rfl rfl rfl rfl rfl) trivial ?_
  refine s_callV (a := 0) (a' := 0) (As := [.int (0), .int (20)]) (id := 2) (st := []) kX10_number l_2_156 (by decide +kernel) (q_id_of rfl) rfl (Nat.le_of_ble_eq_true rfl) (s_mono h (s_I_of (fun v3 u4 h => ?_)) (fun _ _ h9 => h9))
  show s_Ex (d + 1) 0 mX2_readRidge 15 [some (.ref (o0)), some (.ref (2)), some (.int (v1)), none] [.int (v3)] u4 Q X
  refine s_blk [(.istore_n 3, 1, 0, 0), (.aload_n 1, 1, 0, 0)] 17 [some (.ref (o0)), some (.ref (2)), some (.int (v1)), some (.int (v3))] [.ref (2)] u4 [] (by decide +kernel) (by refine qt_istore_n (L' := [some (.ref (o0)), some (.ref (2)), some (.int (v1)), some (.int (v3))]) rfl ?_; refine qt_aload_n (r := 2) rfl ?_; exact qt_z rfl rfl rfl rfl rfl) trivial ?_
  refine s_callV (a := 0) (a' := 0) (As := []) (id := 2) (st := []) kX10_failed l_2_160 (by decide +kernel) (q_id_of rfl) rfl (Nat.le_of_ble_eq_true rfl) (s_mono h (s_I_of (fun v5 u6 h => ?_)) (fun _ _ h9 => h9))
  show s_Ex (d + 1) 0 mX2_readRidge 20 [some (.ref (o0)), some (.ref (2)), some (.int (v1)), some (.int (v3))] [.int (v5)] u6 Q X
  refine s_if (cd := .ne) (off := 10) 30 (by decide +kernel) (by decide) (fun hc => ?_) (fun hc => ?_)
  · replace h := h.1 hc
    exact s_retV (by decide +kernel) rfl h
  · replace h := h.2 hc
    obtain ⟨ho8, h⟩ := h
    obtain ⟨ho9, h⟩ := h
    obtain ⟨ho10, h⟩ := h
    replace h := h _ rfl
    refine s_blk [(.aload_n 0, 1, 0, 0), (.getfield 39, 3, 2, 12), (.iload_n 2, 1, 0, 0), (.iload_n 3, 1, 0, 0), (.iastore, 1, 0, 0)] 30 [some (.ref (o0)), some (.ref (2)), some (.int (v1)), some (.int (v3))] [] (q_wI u6 (o0 + 10) (Int32.toNatClampNeg v1) v3) [q_id 116 2 o0, q_id 116 14 (o0 + 10), vp_in v1 (q_sh (o0 + 10)).2] (by decide +kernel) (by refine qt_aload_n (r := o0) rfl ?_; refine qt_getR (r := o0 + 10) rfl rfl rfl ?_; refine qt_iload_n (x := v1) rfl ?_; refine qt_iload_n (x := v3) rfl ?_; refine qt_iast ?_; exact qt_z rfl rfl rfl rfl rfl) ⟨ho8, ho9, ho10⟩ ?_
    exact s_retV (by decide +kernel) rfl h
theorem eX2_readRidge {d : Nat} {o0 : Nat} {w : q_Sm} {Q : s_Po} {X : s_Xo} (h : vX2_readRidge_0 d o0 w Q X) : s_Ev (d + 1) 0 mX2_readRidge w [.ref (o0), .ref (2)] Q X := s_of (by decide +kernel) rfl (Nat.le_of_ble_eq_true rfl) (xX2_readRidge_0 h)
def vX2_readLamp_0 (d : Nat) (o0 : Nat) (w : q_Sm) (Q : s_Po) (X : s_Xo) : Prop := s_EvI d 0 mX10_colour w [.ref (2)] (fun v1 u2 => s_EvI d 0 mX10_number u2 [.ref (2), .int (0), .int (99)] (fun v3 u4 => s_EvI d 0 mX10_failed u4 [.ref (2)] (fun v5 u6 => ((¬ v5 = 0) → Q none u6) ∧ (¬ (¬ v5 = 0) → (q_id 116 2 o0) ∧ (q_id 116 14 (o0 + 11)) ∧ (vp_in v1 (q_sh (o0 + 11)).2) ∧ ∀ w_7 : q_Sm, w_7 = q_wI u6 (o0 + 11) (Int32.toNatClampNeg v1) v3 → Q none w_7)) X) X) X
theorem xX2_readLamp_0 {d : Nat} {o0 : Nat} {w : q_Sm} {Q : s_Po} {X : s_Xo} (h : vX2_readLamp_0 d o0 w Q X) : s_Ex (d + 1) 0 mX2_readLamp 0 [some (.ref (o0)), some (.ref (2)), none, none] [] w Q X := by
  unfold vX2_readLamp_0 at h
  refine s_blk [(.aload_n 1, 1, 0, 0)] 1 [some (.ref (o0)), some (.ref (2)), none, none] [.ref (2)] w [] (by decide +kernel) (by refine qt_aload_n (r := 2) rfl ?_; exact qt_z rfl rfl rfl rfl rfl) trivial ?_
  refine s_callV (a := 0) (a' := 0) (As := []) (id := 2) (st := []) kX10_colour l_2_163 (by decide +kernel) (q_id_of rfl) rfl (Nat.le_of_ble_eq_true rfl) (s_mono h (s_I_of (fun v1 u2 h => ?_)) (fun _ _ h9 => h9))
  show s_Ex (d + 1) 0 mX2_readLamp 4 [some (.ref (o0)), some (.ref (2)), none, none] [.int (v1)] u2 Q X
  refine s_blk [(.istore_n 2, 1, 0, 0), (.aload_n 1, 1, 0, 0), (.iconst 0, 1, 0, 0), (.bipush 99, 2, 0, 0)] 9 [some (.ref (o0)), some (.ref (2)), some (.int (v1)), none] [.int (99), .int (0), .ref (2)] u2 [] (by decide +kernel) (by refine qt_istore_n (L' := [some (.ref (o0)), some (.ref (2)), some (.int (v1)), none]) rfl ?_; refine qt_aload_n (r := 2) rfl ?_; refine qt_iconst qc_0 ?_; refine qt_bipush qb_99 ?_; exact qt_z rfl rfl rfl rfl rfl) trivial ?_
  refine s_callV (a := 0) (a' := 0) (As := [.int (0), .int (99)]) (id := 2) (st := []) kX10_number l_2_156 (by decide +kernel) (q_id_of rfl) rfl (Nat.le_of_ble_eq_true rfl) (s_mono h (s_I_of (fun v3 u4 h => ?_)) (fun _ _ h9 => h9))
  show s_Ex (d + 1) 0 mX2_readLamp 12 [some (.ref (o0)), some (.ref (2)), some (.int (v1)), none] [.int (v3)] u4 Q X
  refine s_blk [(.istore_n 3, 1, 0, 0), (.aload_n 1, 1, 0, 0)] 14 [some (.ref (o0)), some (.ref (2)), some (.int (v1)), some (.int (v3))] [.ref (2)] u4 [] (by decide +kernel) (by refine qt_istore_n (L' := [some (.ref (o0)), some (.ref (2)), some (.int (v1)), some (.int (v3))]) rfl ?_; refine qt_aload_n (r := 2) rfl ?_; exact qt_z rfl rfl rfl rfl rfl) trivial ?_
  refine s_callV (a := 0) (a' := 0) (As := []) (id := 2) (st := []) kX10_failed l_2_160 (by decide +kernel) (q_id_of rfl) rfl (Nat.le_of_ble_eq_true rfl) (s_mono h (s_I_of (fun v5 u6 h => ?_)) (fun _ _ h9 => h9))
  show s_Ex (d + 1) 0 mX2_readLamp 17 [some (.ref (o0)), some (.ref (2)), some (.int (v1)), some (.int (v3))] [.int (v5)] u6 Q X
  refine s_if (cd := .ne) (off := 10) 27 (by decide +kernel) (by decide) (fun hc => ?_) (fun hc => ?_)
  · replace h := h.1 hc
    exact s_retV (by decide +kernel) rfl h
  · replace h := h.2 hc
    obtain ⟨ho8, h⟩ := h
    obtain ⟨ho9, h⟩ := h
    obtain ⟨ho10, h⟩ := h
    replace h := h _ rfl
    refine s_blk [(.aload_n 0, 1, 0, 0), (.getfield 42, 3, 2, 13), (.iload_n 2, 1, 0, 0), (.iload_n 3, 1, 0, 0), (.iastore, 1, 0, 0)] 27 [some (.ref (o0)), some (.ref (2)), some (.int (v1)), some (.int (v3))] [] (q_wI u6 (o0 + 11) (Int32.toNatClampNeg v1) v3) [q_id 116 2 o0, q_id 116 14 (o0 + 11), vp_in v1 (q_sh (o0 + 11)).2] (by decide +kernel) (by refine qt_aload_n (r := o0) rfl ?_; refine qt_getR (r := o0 + 11) rfl rfl rfl ?_; refine qt_iload_n (x := v1) rfl ?_; refine qt_iload_n (x := v3) rfl ?_; refine qt_iast ?_; exact qt_z rfl rfl rfl rfl rfl) ⟨ho8, ho9, ho10⟩ ?_
    exact s_retV (by decide +kernel) rfl h
theorem eX2_readLamp {d : Nat} {o0 : Nat} {w : q_Sm} {Q : s_Po} {X : s_Xo} (h : vX2_readLamp_0 d o0 w Q X) : s_Ev (d + 1) 0 mX2_readLamp w [.ref (o0), .ref (2)] Q X := s_of (by decide +kernel) rfl (Nat.le_of_ble_eq_true rfl) (xX2_readLamp_0 h)
def vX2_readWedding_0 (d : Nat) (o0 : Nat) (w : q_Sm) (Q : s_Po) (X : s_Xo) : Prop := s_EvI d 0 mX10_colour w [.ref (2)] (fun v1 u2 => s_EvI d 0 mX10_number u2 [.ref (2), .int (1), .int (40)] (fun v3 u4 => s_EvI d 0 mX10_number u4 [.ref (2), .int (0), .int (60)] (fun v5 u6 => s_EvI d 0 mX10_failed u6 [.ref (2)] (fun v7 u8 => ((¬ v7 = 0) → Q none u8) ∧ (¬ (¬ v7 = 0) → (q_id 116 2 o0) ∧ ((6 ≤ (u8.1 o0 14)) → Q none u8) ∧ (¬ (6 ≤ (u8.1 o0 14)) → (q_id 116 2 o0) ∧ (q_id 116 2 o0) ∧ (q_id 116 14 (o0 + 12)) ∧ (vp_in (u8.1 o0 14) (q_sh (o0 + 12)).2) ∧ ∀ w_9 : q_Sm, w_9 = q_wI u8 (o0 + 12) (Int32.toNatClampNeg (u8.1 o0 14)) v1 → (q_id 116 2 o0) ∧ (q_id 116 2 o0) ∧ (q_id 116 14 (o0 + 13)) ∧ (vp_in (w_9.1 o0 14) (q_sh (o0 + 13)).2) ∧ ∀ w_10 : q_Sm, w_10 = q_wI w_9 (o0 + 13) (Int32.toNatClampNeg (w_9.1 o0 14)) v3 → (q_id 116 2 o0) ∧ (q_id 116 2 o0) ∧ (q_id 116 14 (o0 + 14)) ∧ (vp_in (w_10.1 o0 14) (q_sh (o0 + 14)).2) ∧ ∀ w_11 : q_Sm, w_11 = q_wI w_10 (o0 + 14) (Int32.toNatClampNeg (w_10.1 o0 14)) v5 → (q_id 116 2 o0) ∧ (q_id 116 2 o0) ∧ ∀ w_12 : q_Sm, w_12 = q_wI w_11 o0 14 ((w_11.1 o0 14) + 1) → Q none w_12))) X) X) X) X
theorem xX2_readWedding_0 {d : Nat} {o0 : Nat} {w : q_Sm} {Q : s_Po} {X : s_Xo} (h : vX2_readWedding_0 d o0 w Q X) : s_Ex (d + 1) 0 mX2_readWedding 0 [some (.ref (o0)), some (.ref (2)), none, none, none] [] w Q X := by
  unfold vX2_readWedding_0 at h
  refine s_blk [(.aload_n 1, 1, 0, 0)] 1 [some (.ref (o0)), some (.ref (2)), none, none, none] [.ref (2)] w [] (by decide +kernel) (by refine qt_aload_n (r := 2) rfl ?_; exact qt_z rfl rfl rfl rfl rfl) trivial ?_
  refine s_callV (a := 0) (a' := 0) (As := []) (id := 2) (st := []) kX10_colour l_2_163 (by decide +kernel) (q_id_of rfl) rfl (Nat.le_of_ble_eq_true rfl) (s_mono h (s_I_of (fun v1 u2 h => ?_)) (fun _ _ h9 => h9))
  show s_Ex (d + 1) 0 mX2_readWedding 4 [some (.ref (o0)), some (.ref (2)), none, none, none] [.int (v1)] u2 Q X
  refine s_blk [(.istore_n 2, 1, 0, 0), (.aload_n 1, 1, 0, 0), (.iconst 1, 1, 0, 0), (.bipush 40, 2, 0, 0)] 9 [some (.ref (o0)), some (.ref (2)), some (.int (v1)), none, none] [.int (40), .int (1), .ref (2)] u2 [] (by decide +kernel) (by refine qt_istore_n (L' := [some (.ref (o0)), some (.ref (2)), some (.int (v1)), none, none]) rfl ?_; refine qt_aload_n (r := 2) rfl ?_; refine qt_iconst qc_1 ?_; refine qt_bipush qb_40 ?_; exact qt_z rfl rfl rfl rfl rfl) trivial ?_
  refine s_callV (a := 0) (a' := 0) (As := [.int (1), .int (40)]) (id := 2) (st := []) kX10_number l_2_156 (by decide +kernel) (q_id_of rfl) rfl (Nat.le_of_ble_eq_true rfl) (s_mono h (s_I_of (fun v3 u4 h => ?_)) (fun _ _ h9 => h9))
  show s_Ex (d + 1) 0 mX2_readWedding 12 [some (.ref (o0)), some (.ref (2)), some (.int (v1)), none, none] [.int (v3)] u4 Q X
  refine s_blk [(.istore_n 3, 1, 0, 0), (.aload_n 1, 1, 0, 0), (.iconst 0, 1, 0, 0), (.bipush 60, 2, 0, 0)] 17 [some (.ref (o0)), some (.ref (2)), some (.int (v1)), some (.int (v3)), none] [.int (60), .int (0), .ref (2)] u4 [] (by decide +kernel) (by refine qt_istore_n (L' := [some (.ref (o0)), some (.ref (2)), some (.int (v1)), some (.int (v3)), none]) rfl ?_; refine qt_aload_n (r := 2) rfl ?_; refine qt_iconst qc_0 ?_; refine qt_bipush qb_60 ?_; exact qt_z rfl rfl rfl rfl rfl) trivial ?_
  refine s_callV (a := 0) (a' := 0) (As := [.int (0), .int (60)]) (id := 2) (st := []) kX10_number l_2_156 (by decide +kernel) (q_id_of rfl) rfl (Nat.le_of_ble_eq_true rfl) (s_mono h (s_I_of (fun v5 u6 h => ?_)) (fun _ _ h9 => h9))
  show s_Ex (d + 1) 0 mX2_readWedding 20 [some (.ref (o0)), some (.ref (2)), some (.int (v1)), some (.int (v3)), none] [.int (v5)] u6 Q X
  refine s_blk [(.istore 4, 2, 0, 0), (.aload_n 1, 1, 0, 0)] 23 [some (.ref (o0)), some (.ref (2)), some (.int (v1)), some (.int (v3)), some (.int (v5))] [.ref (2)] u6 [] (by decide +kernel) (by refine qt_istore (L' := [some (.ref (o0)), some (.ref (2)), some (.int (v1)), some (.int (v3)), some (.int (v5))]) rfl ?_; refine qt_aload_n (r := 2) rfl ?_; exact qt_z rfl rfl rfl rfl rfl) trivial ?_
  refine s_callV (a := 0) (a' := 0) (As := []) (id := 2) (st := []) kX10_failed l_2_160 (by decide +kernel) (q_id_of rfl) rfl (Nat.le_of_ble_eq_true rfl) (s_mono h (s_I_of (fun v7 u8 h => ?_)) (fun _ _ h9 => h9))
  show s_Ex (d + 1) 0 mX2_readWedding 26 [some (.ref (o0)), some (.ref (2)), some (.int (v1)), some (.int (v3)), some (.int (v5))] [.int (v7)] u8 Q X
  refine s_if (cd := .ne) (off := 53) 79 (by decide +kernel) (by decide) (fun hc => ?_) (fun hc => ?_)
  · replace h := h.1 hc
    exact s_retV (by decide +kernel) rfl h
  · replace h := h.2 hc
    obtain ⟨ho27, h⟩ := h
    refine s_blk [(.aload_n 0, 1, 0, 0), (.getfield 87, 3, 2, 14), (.bipush 6, 2, 0, 0)] 35 [some (.ref (o0)), some (.ref (2)), some (.int (v1)), some (.int (v3)), some (.int (v5))] [.int (6), .int (u8.1 o0 14)] u8 [q_id 116 2 o0] (by decide +kernel) (by refine qt_aload_n (r := o0) rfl ?_; refine qt_getI rfl rfl ?_; refine qt_bipush qb_6 ?_; exact qt_z rfl rfl rfl rfl rfl) ho27 ?_
    refine s_icmp (cd := .ge) (off := 44) 79 (by decide +kernel) (by decide) (fun hc => ?_) (fun hc => ?_)
    · replace h := h.1 hc
      exact s_retV (by decide +kernel) rfl h
    · replace h := h.2 hc
      obtain ⟨ho13, h⟩ := h
      obtain ⟨ho14, h⟩ := h
      obtain ⟨ho15, h⟩ := h
      obtain ⟨ho16, h⟩ := h
      replace h := h _ rfl
      obtain ⟨ho17, h⟩ := h
      obtain ⟨ho18, h⟩ := h
      obtain ⟨ho19, h⟩ := h
      obtain ⟨ho20, h⟩ := h
      replace h := h _ rfl
      obtain ⟨ho21, h⟩ := h
      obtain ⟨ho22, h⟩ := h
      obtain ⟨ho23, h⟩ := h
      obtain ⟨ho24, h⟩ := h
      replace h := h _ rfl
      obtain ⟨ho25, h⟩ := h
      obtain ⟨ho26, h⟩ := h
      replace h := h _ rfl
      refine s_blk [(.aload_n 0, 1, 0, 0), (.getfield 45, 3, 2, 15), (.aload_n 0, 1, 0, 0), (.getfield 87, 3, 2, 14), (.iload_n 2, 1, 0, 0), (.iastore, 1, 0, 0), (.aload_n 0, 1, 0, 0), (.getfield 48, 3, 2, 16), (.aload_n 0, 1, 0, 0), (.getfield 87, 3, 2, 14), (.iload_n 3, 1, 0, 0), (.iastore, 1, 0, 0), (.aload_n 0, 1, 0, 0), (.getfield 51, 3, 2, 17), (.aload_n 0, 1, 0, 0), (.getfield 87, 3, 2, 14), (.iload 4, 2, 0, 0), (.iastore, 1, 0, 0), (.aload_n 0, 1, 0, 0), (.dup, 1, 0, 0), (.getfield 87, 3, 2, 14), (.iconst 1, 1, 0, 0), (.iadd, 1, 0, 0), (.putfield 87, 3, 2, 14)] 79 [some (.ref (o0)), some (.ref (2)), some (.int (v1)), some (.int (v3)), some (.int (v5))] [] (q_wI (q_wI (q_wI (q_wI u8 (o0 + 12) (Int32.toNatClampNeg (u8.1 o0 14)) v1) (o0 + 13) (Int32.toNatClampNeg ((q_wI u8 (o0 + 12) (Int32.toNatClampNeg (u8.1 o0 14)) v1).1 o0 14)) v3) (o0 + 14) (Int32.toNatClampNeg ((q_wI (q_wI u8 (o0 + 12) (Int32.toNatClampNeg (u8.1 o0 14)) v1) (o0 + 13) (Int32.toNatClampNeg ((q_wI u8 (o0 + 12) (Int32.toNatClampNeg (u8.1 o0 14)) v1).1 o0 14)) v3).1 o0 14)) v5) o0 14 (((q_wI (q_wI (q_wI u8 (o0 + 12) (Int32.toNatClampNeg (u8.1 o0 14)) v1) (o0 + 13) (Int32.toNatClampNeg ((q_wI u8 (o0 + 12) (Int32.toNatClampNeg (u8.1 o0 14)) v1).1 o0 14)) v3) (o0 + 14) (Int32.toNatClampNeg ((q_wI (q_wI u8 (o0 + 12) (Int32.toNatClampNeg (u8.1 o0 14)) v1) (o0 + 13) (Int32.toNatClampNeg ((q_wI u8 (o0 + 12) (Int32.toNatClampNeg (u8.1 o0 14)) v1).1 o0 14)) v3).1 o0 14)) v5).1 o0 14) + 1)) [q_id 116 2 o0, q_id 116 2 o0, q_id 116 14 (o0 + 12), vp_in (u8.1 o0 14) (q_sh (o0 + 12)).2, q_id 116 2 o0, q_id 116 2 o0, q_id 116 14 (o0 + 13), vp_in ((q_wI u8 (o0 + 12) (Int32.toNatClampNeg (u8.1 o0 14)) v1).1 o0 14) (q_sh (o0 + 13)).2, q_id 116 2 o0, q_id 116 2 o0, q_id 116 14 (o0 + 14), vp_in ((q_wI (q_wI u8 (o0 + 12) (Int32.toNatClampNeg (u8.1 o0 14)) v1) (o0 + 13) (Int32.toNatClampNeg ((q_wI u8 (o0 + 12) (Int32.toNatClampNeg (u8.1 o0 14)) v1).1 o0 14)) v3).1 o0 14) (q_sh (o0 + 14)).2, q_id 116 2 o0, q_id 116 2 o0] (by decide +kernel) (by refine qt_aload_n (r := o0) rfl ?_; refine qt_getR (r := o0 + 12) rfl rfl rfl ?_; refine qt_aload_n (r := o0) rfl ?_; refine qt_getI rfl rfl ?_; refine qt_iload_n (x := v1) rfl ?_; refine qt_iast ?_; refine qt_aload_n (r := o0) rfl ?_; refine qt_getR (r := o0 + 13) rfl rfl rfl ?_; refine qt_aload_n (r := o0) rfl ?_; refine qt_getI rfl rfl ?_; refine qt_iload_n (x := v3) rfl ?_; refine qt_iast ?_; refine qt_aload_n (r := o0) rfl ?_; refine qt_getR (r := o0 + 14) rfl rfl rfl ?_; refine qt_aload_n (r := o0) rfl ?_; refine qt_getI rfl rfl ?_; refine qt_iload (x := v5) rfl ?_; refine qt_iast ?_; refine qt_aload_n (r := o0) rfl ?_; refine qt_dupR ?_; refine qt_getI rfl rfl ?_; refine qt_iconst qc_1 ?_; refine qt_iadd ?_; refine qt_putI rfl ?_; exact qt_z rfl rfl rfl rfl rfl) ⟨ho13, ho14, ho15, ho16, ho17, ho18, ho19, ho20, ho21, ho22, ho23, ho24, ho25, ho26⟩ ?_
      exact s_retV (by decide +kernel) rfl h
theorem eX2_readWedding {d : Nat} {o0 : Nat} {w : q_Sm} {Q : s_Po} {X : s_Xo} (h : vX2_readWedding_0 d o0 w Q X) : s_Ev (d + 1) 0 mX2_readWedding w [.ref (o0), .ref (2)] Q X := s_of (by decide +kernel) rfl (Nat.le_of_ble_eq_true rfl) (xX2_readWedding_0 h)
def vX2_readFog_0 (d : Nat) (o0 : Nat) (w : q_Sm) (Q : s_Po) (X : s_Xo) : Prop := s_EvI d 0 mX10_number w [.ref (2), .int (0), .int (16)] (fun v1 u2 => s_EvI d 0 mX10_failed u2 [.ref (2)] (fun v3 u4 => ((¬ v3 = 0) → Q none u4) ∧ (¬ (¬ v3 = 0) → (q_id 116 2 o0) ∧ ∀ w_5 : q_Sm, w_5 = q_wI u4 o0 18 v1 → Q none w_5)) X) X
theorem xX2_readFog_0 {d : Nat} {o0 : Nat} {w : q_Sm} {Q : s_Po} {X : s_Xo} (h : vX2_readFog_0 d o0 w Q X) : s_Ex (d + 1) 0 mX2_readFog 0 [some (.ref (o0)), some (.ref (2)), none] [] w Q X := by
  unfold vX2_readFog_0 at h
  refine s_blk [(.aload_n 1, 1, 0, 0), (.iconst 0, 1, 0, 0), (.bipush 16, 2, 0, 0)] 4 [some (.ref (o0)), some (.ref (2)), none] [.int (16), .int (0), .ref (2)] w [] (by decide +kernel) (by refine qt_aload_n (r := 2) rfl ?_; refine qt_iconst qc_0 ?_; refine qt_bipush qb_16 ?_; exact qt_z rfl rfl rfl rfl rfl) trivial ?_
  refine s_callV (a := 0) (a' := 0) (As := [.int (0), .int (16)]) (id := 2) (st := []) kX10_number l_2_156 (by decide +kernel) (q_id_of rfl) rfl (Nat.le_of_ble_eq_true rfl) (s_mono h (s_I_of (fun v1 u2 h => ?_)) (fun _ _ h9 => h9))
  show s_Ex (d + 1) 0 mX2_readFog 7 [some (.ref (o0)), some (.ref (2)), none] [.int (v1)] u2 Q X
  refine s_blk [(.istore_n 2, 1, 0, 0), (.aload_n 1, 1, 0, 0)] 9 [some (.ref (o0)), some (.ref (2)), some (.int (v1))] [.ref (2)] u2 [] (by decide +kernel) (by refine qt_istore_n (L' := [some (.ref (o0)), some (.ref (2)), some (.int (v1))]) rfl ?_; refine qt_aload_n (r := 2) rfl ?_; exact qt_z rfl rfl rfl rfl rfl) trivial ?_
  refine s_callV (a := 0) (a' := 0) (As := []) (id := 2) (st := []) kX10_failed l_2_160 (by decide +kernel) (q_id_of rfl) rfl (Nat.le_of_ble_eq_true rfl) (s_mono h (s_I_of (fun v3 u4 h => ?_)) (fun _ _ h9 => h9))
  show s_Ex (d + 1) 0 mX2_readFog 12 [some (.ref (o0)), some (.ref (2)), some (.int (v1))] [.int (v3)] u4 Q X
  refine s_if (cd := .ne) (off := 8) 20 (by decide +kernel) (by decide) (fun hc => ?_) (fun hc => ?_)
  · replace h := h.1 hc
    exact s_retV (by decide +kernel) rfl h
  · replace h := h.2 hc
    obtain ⟨ho6, h⟩ := h
    replace h := h _ rfl
    refine s_blk [(.aload_n 0, 1, 0, 0), (.iload_n 2, 1, 0, 0), (.putfield 90, 3, 2, 18)] 20 [some (.ref (o0)), some (.ref (2)), some (.int (v1))] [] (q_wI u4 o0 18 v1) [q_id 116 2 o0] (by decide +kernel) (by refine qt_aload_n (r := o0) rfl ?_; refine qt_iload_n (x := v1) rfl ?_; refine qt_putI rfl ?_; exact qt_z rfl rfl rfl rfl rfl) ho6 ?_
    exact s_retV (by decide +kernel) rfl h
theorem eX2_readFog {d : Nat} {o0 : Nat} {w : q_Sm} {Q : s_Po} {X : s_Xo} (h : vX2_readFog_0 d o0 w Q X) : s_Ev (d + 1) 0 mX2_readFog w [.ref (o0), .ref (2)] Q X := s_of (by decide +kernel) rfl (Nat.le_of_ble_eq_true rfl) (xX2_readFog_0 h)
def vX2_readLoan_0 (d : Nat) (o0 : Nat) (w : q_Sm) (Q : s_Po) (X : s_Xo) : Prop := (q_id 116 2 o0) ∧ s_EvI d 0 mX10_number w [.ref (2), .int (0), .int ((w.1 o0 0) - 1)] (fun v1 u2 => (q_id 116 2 o0) ∧ s_EvI d 0 mX10_number u2 [.ref (2), .int (0), .int ((u2.1 o0 0) - 1)] (fun v3 u4 => ((¬ v1 = v3) → s_Ex (d + 1) 0 mX2_readLoan 38 [some (.ref (o0)), some (.ref (2)), some (.int (v1)), some (.int (v3)), none, none] [] u4 Q X) ∧ (¬ (¬ v1 = v3) → s_EvI d 0 mX10_startOfLast u4 [.ref (2)] (fun v5 u6 => s_EvV d 0 mX10_blame u6 [.ref (2), .int (2), .int (v5)] (fun u8 => s_Ex (d + 1) 0 mX2_readLoan 38 [some (.ref (o0)), some (.ref (2)), some (.int (v1)), some (.int (v3)), none, none] [] u8 Q X) X) X)) X) X
def vX2_readLoan_38 (d : Nat) (o0 : Nat) (x2 : Int32) (x3 : Int32) (w : q_Sm) (Q : s_Po) (X : s_Xo) : Prop := s_EvI d 0 mX10_number w [.ref (2), .int (1), .int (99)] (fun v11 u12 => s_EvI d 0 mX10_failed u12 [.ref (2)] (fun v13 u14 => ((¬ v13 = 0) → Q none u14) ∧ (¬ (¬ v13 = 0) → (q_id 116 2 o0) ∧ (q_id 116 2 o0) ∧ (q_id 116 14 (o0 + 15)) ∧ (vp_in ((x2 * 6) + x3) (q_sh (o0 + 15)).2) ∧ s_EvI d 0 mK_min u14 [.int (999), .int ((u14.1 (o0 + 15) (Int32.toNatClampNeg ((x2 * 6) + x3))) + v11)] (fun v15 u16 => (q_id 116 14 (o0 + 15)) ∧ (vp_in ((x2 * 6) + x3) (q_sh (o0 + 15)).2) ∧ ∀ w_17 : q_Sm, w_17 = q_wI u16 (o0 + 15) (Int32.toNatClampNeg ((x2 * 6) + x3)) v15 → Q none w_17) X)) X) X
theorem xX2_readLoan_0 {d : Nat} {o0 : Nat} {w : q_Sm} {Q : s_Po} {X : s_Xo} (h : vX2_readLoan_0 d o0 w Q X) : s_Ex (d + 1) 0 mX2_readLoan 0 [some (.ref (o0)), some (.ref (2)), none, none, none, none] [] w Q X := by
  unfold vX2_readLoan_0 at h
  obtain ⟨ho10, h⟩ := h
  refine s_blk [(.aload_n 1, 1, 0, 0), (.iconst 0, 1, 0, 0), (.aload_n 0, 1, 0, 0), (.getfield 77, 3, 2, 0), (.iconst 1, 1, 0, 0), (.isub, 1, 0, 0)] 8 [some (.ref (o0)), some (.ref (2)), none, none, none, none] [.int ((w.1 o0 0) - 1), .int (0), .ref (2)] w [q_id 116 2 o0] (by decide +kernel) (by refine qt_aload_n (r := 2) rfl ?_; refine qt_iconst qc_0 ?_; refine qt_aload_n (r := o0) rfl ?_; refine qt_getI rfl rfl ?_; refine qt_iconst qc_1 ?_; refine qt_isub ?_; exact qt_z rfl rfl rfl rfl rfl) ho10 ?_
  refine s_callV (a := 0) (a' := 0) (As := [.int (0), .int ((w.1 o0 0) - 1)]) (id := 2) (st := []) kX10_number l_2_156 (by decide +kernel) (q_id_of rfl) rfl (Nat.le_of_ble_eq_true rfl) (s_mono h (s_I_of (fun v1 u2 h => ?_)) (fun _ _ h9 => h9))
  show s_Ex (d + 1) 0 mX2_readLoan 11 [some (.ref (o0)), some (.ref (2)), none, none, none, none] [.int (v1)] u2 Q X
  obtain ⟨ho9, h⟩ := h
  refine s_blk [(.istore_n 2, 1, 0, 0), (.aload_n 1, 1, 0, 0), (.iconst 0, 1, 0, 0), (.aload_n 0, 1, 0, 0), (.getfield 77, 3, 2, 0), (.iconst 1, 1, 0, 0), (.isub, 1, 0, 0)] 20 [some (.ref (o0)), some (.ref (2)), some (.int (v1)), none, none, none] [.int ((u2.1 o0 0) - 1), .int (0), .ref (2)] u2 [q_id 116 2 o0] (by decide +kernel) (by refine qt_istore_n (L' := [some (.ref (o0)), some (.ref (2)), some (.int (v1)), none, none, none]) rfl ?_; refine qt_aload_n (r := 2) rfl ?_; refine qt_iconst qc_0 ?_; refine qt_aload_n (r := o0) rfl ?_; refine qt_getI rfl rfl ?_; refine qt_iconst qc_1 ?_; refine qt_isub ?_; exact qt_z rfl rfl rfl rfl rfl) ho9 ?_
  refine s_callV (a := 0) (a' := 0) (As := [.int (0), .int ((u2.1 o0 0) - 1)]) (id := 2) (st := []) kX10_number l_2_156 (by decide +kernel) (q_id_of rfl) rfl (Nat.le_of_ble_eq_true rfl) (s_mono h (s_I_of (fun v3 u4 h => ?_)) (fun _ _ h9 => h9))
  show s_Ex (d + 1) 0 mX2_readLoan 23 [some (.ref (o0)), some (.ref (2)), some (.int (v1)), none, none, none] [.int (v3)] u4 Q X
  refine s_blk [(.istore_n 3, 1, 0, 0), (.iload_n 2, 1, 0, 0), (.iload_n 3, 1, 0, 0)] 26 [some (.ref (o0)), some (.ref (2)), some (.int (v1)), some (.int (v3)), none, none] [.int (v3), .int (v1)] u4 [] (by decide +kernel) (by refine qt_istore_n (L' := [some (.ref (o0)), some (.ref (2)), some (.int (v1)), some (.int (v3)), none, none]) rfl ?_; refine qt_iload_n (x := v1) rfl ?_; refine qt_iload_n (x := v3) rfl ?_; exact qt_z rfl rfl rfl rfl rfl) trivial ?_
  refine s_icmp (cd := .ne) (off := 12) 38 (by decide +kernel) (by decide) (fun hc => ?_) (fun hc => ?_)
  · replace h := h.1 hc
    exact h
  · replace h := h.2 hc
    refine s_blk [(.aload_n 1, 1, 0, 0), (.iconst 2, 1, 0, 0), (.aload_n 1, 1, 0, 0)] 32 [some (.ref (o0)), some (.ref (2)), some (.int (v1)), some (.int (v3)), none, none] [.ref (2), .int (2), .ref (2)] u4 [] (by decide +kernel) (by refine qt_aload_n (r := 2) rfl ?_; refine qt_iconst qc_2 ?_; refine qt_aload_n (r := 2) rfl ?_; exact qt_z rfl rfl rfl rfl rfl) trivial ?_
    refine s_callV (a := 0) (a' := 0) (As := []) (id := 2) (st := [.int (2), .ref (2)]) kX10_startOfLast l_2_102 (by decide +kernel) (q_id_of rfl) rfl (Nat.le_of_ble_eq_true rfl) (s_mono h (s_I_of (fun v5 u6 h => ?_)) (fun _ _ h9 => h9))
    show s_Ex (d + 1) 0 mX2_readLoan 35 [some (.ref (o0)), some (.ref (2)), some (.int (v1)), some (.int (v3)), none, none] [.int (v5), .int (2), .ref (2)] u6 Q X
    refine s_callV (a := 0) (a' := 0) (As := [.int (2), .int (v5)]) (id := 2) (st := []) kX10_blame l_2_152 (by decide +kernel) (q_id_of rfl) rfl (Nat.le_of_ble_eq_true rfl) (s_mono h (s_V_of (fun u8 h => ?_)) (fun _ _ h9 => h9))
    show s_Ex (d + 1) 0 mX2_readLoan 38 [some (.ref (o0)), some (.ref (2)), some (.int (v1)), some (.int (v3)), none, none] [] u8 Q X
    exact h
theorem xX2_readLoan_38 {d : Nat} {o0 : Nat} {x2 : Int32} {x3 : Int32} {w : q_Sm} {Q : s_Po} {X : s_Xo} (h : vX2_readLoan_38 d o0 x2 x3 w Q X) : s_Ex (d + 1) 0 mX2_readLoan 38 [some (.ref (o0)), some (.ref (2)), some (.int (x2)), some (.int (x3)), none, none] [] w Q X := by
  unfold vX2_readLoan_38 at h
  refine s_blk [(.aload_n 1, 1, 0, 0), (.iconst 1, 1, 0, 0), (.bipush 99, 2, 0, 0)] 42 [some (.ref (o0)), some (.ref (2)), some (.int (x2)), some (.int (x3)), none, none] [.int (99), .int (1), .ref (2)] w [] (by decide +kernel) (by refine qt_aload_n (r := 2) rfl ?_; refine qt_iconst qc_1 ?_; refine qt_bipush qb_99 ?_; exact qt_z rfl rfl rfl rfl rfl) trivial ?_
  refine s_callV (a := 0) (a' := 0) (As := [.int (1), .int (99)]) (id := 2) (st := []) kX10_number l_2_156 (by decide +kernel) (q_id_of rfl) rfl (Nat.le_of_ble_eq_true rfl) (s_mono h (s_I_of (fun v11 u12 h => ?_)) (fun _ _ h9 => h9))
  show s_Ex (d + 1) 0 mX2_readLoan 45 [some (.ref (o0)), some (.ref (2)), some (.int (x2)), some (.int (x3)), none, none] [.int (v11)] u12 Q X
  refine s_blk [(.istore 4, 2, 0, 0), (.aload_n 1, 1, 0, 0)] 48 [some (.ref (o0)), some (.ref (2)), some (.int (x2)), some (.int (x3)), some (.int (v11)), none] [.ref (2)] u12 [] (by decide +kernel) (by refine qt_istore (L' := [some (.ref (o0)), some (.ref (2)), some (.int (x2)), some (.int (x3)), some (.int (v11)), none]) rfl ?_; refine qt_aload_n (r := 2) rfl ?_; exact qt_z rfl rfl rfl rfl rfl) trivial ?_
  refine s_callV (a := 0) (a' := 0) (As := []) (id := 2) (st := []) kX10_failed l_2_160 (by decide +kernel) (q_id_of rfl) rfl (Nat.le_of_ble_eq_true rfl) (s_mono h (s_I_of (fun v13 u14 h => ?_)) (fun _ _ h9 => h9))
  show s_Ex (d + 1) 0 mX2_readLoan 51 [some (.ref (o0)), some (.ref (2)), some (.int (x2)), some (.int (x3)), some (.int (v11)), none] [.int (v13)] u14 Q X
  refine s_if (cd := .ne) (off := 34) 85 (by decide +kernel) (by decide) (fun hc => ?_) (fun hc => ?_)
  · replace h := h.1 hc
    exact s_retV (by decide +kernel) rfl h
  · replace h := h.2 hc
    obtain ⟨ho20, h⟩ := h
    obtain ⟨ho21, h⟩ := h
    obtain ⟨ho22, h⟩ := h
    obtain ⟨ho23, h⟩ := h
    refine s_blk [(.iload_n 2, 1, 0, 0), (.bipush 6, 2, 0, 0), (.imul, 1, 0, 0), (.iload_n 3, 1, 0, 0), (.iadd, 1, 0, 0), (.istore 5, 2, 0, 0), (.aload_n 0, 1, 0, 0), (.getfield 54, 3, 2, 19), (.iload 5, 2, 0, 0), (.sipush 999, 3, 0, 0), (.aload_n 0, 1, 0, 0), (.getfield 54, 3, 2, 19), (.iload 5, 2, 0, 0), (.iaload, 1, 0, 0), (.iload 4, 2, 0, 0), (.iadd, 1, 0, 0)] 81 [some (.ref (o0)), some (.ref (2)), some (.int (x2)), some (.int (x3)), some (.int (v11)), some (.int ((x2 * 6) + x3))] [.int ((u14.1 (o0 + 15) (Int32.toNatClampNeg ((x2 * 6) + x3))) + v11), .int (999), .int ((x2 * 6) + x3), .ref (o0 + 15)] u14 [q_id 116 2 o0, q_id 116 2 o0, q_id 116 14 (o0 + 15), vp_in ((x2 * 6) + x3) (q_sh (o0 + 15)).2] (by decide +kernel) (by refine qt_iload_n (x := x2) rfl ?_; refine qt_bipush qb_6 ?_; refine qt_imul ?_; refine qt_iload_n (x := x3) rfl ?_; refine qt_iadd ?_; refine qt_istore (L' := [some (.ref (o0)), some (.ref (2)), some (.int (x2)), some (.int (x3)), some (.int (v11)), some (.int ((x2 * 6) + x3))]) rfl ?_; refine qt_aload_n (r := o0) rfl ?_; refine qt_getR (r := o0 + 15) rfl rfl rfl ?_; refine qt_iload (x := (x2 * 6) + x3) rfl ?_; refine qt_sipush qs_999 ?_; refine qt_aload_n (r := o0) rfl ?_; refine qt_getR (r := o0 + 15) rfl rfl rfl ?_; refine qt_iload (x := (x2 * 6) + x3) rfl ?_; refine qt_iald ?_; refine qt_iload (x := v11) rfl ?_; refine qt_iadd ?_; exact qt_z rfl rfl rfl rfl rfl) ⟨ho20, ho21, ho22, ho23⟩ ?_
    refine s_callS (a := 0) (a' := 0) (As := [.int (999), .int ((u14.1 (o0 + 15) (Int32.toNatClampNeg ((x2 * 6) + x3))) + v11)]) (st := [.int ((x2 * 6) + x3), .ref (o0 + 15)]) kK_min l_2_165 (by decide +kernel) rfl (Nat.le_of_ble_eq_true rfl) (s_mono h (s_I_of (fun v15 u16 h => ?_)) (fun _ _ h9 => h9))
    show s_Ex (d + 1) 0 mX2_readLoan 84 [some (.ref (o0)), some (.ref (2)), some (.int (x2)), some (.int (x3)), some (.int (v11)), some (.int ((x2 * 6) + x3))] [.int (v15), .int ((x2 * 6) + x3), .ref (o0 + 15)] u16 Q X
    obtain ⟨ho18, h⟩ := h
    obtain ⟨ho19, h⟩ := h
    replace h := h _ rfl
    refine s_blk [(.iastore, 1, 0, 0)] 85 [some (.ref (o0)), some (.ref (2)), some (.int (x2)), some (.int (x3)), some (.int (v11)), some (.int ((x2 * 6) + x3))] [] (q_wI u16 (o0 + 15) (Int32.toNatClampNeg ((x2 * 6) + x3)) v15) [q_id 116 14 (o0 + 15), vp_in ((x2 * 6) + x3) (q_sh (o0 + 15)).2] (by decide +kernel) (by refine qt_iast ?_; exact qt_z rfl rfl rfl rfl rfl) ⟨ho18, ho19⟩ ?_
    exact s_retV (by decide +kernel) rfl h
theorem eX2_readLoan {d : Nat} {o0 : Nat} {w : q_Sm} {Q : s_Po} {X : s_Xo} (h : vX2_readLoan_0 d o0 w Q X) : s_Ev (d + 1) 0 mX2_readLoan w [.ref (o0), .ref (2)] Q X := s_of (by decide +kernel) rfl (Nat.le_of_ble_eq_true rfl) (xX2_readLoan_0 h)
def vX2_orderByTerm_0 (d : Nat) (o0 : Nat) (w : q_Sm) (Q : s_Po) (X : s_Xo) : Prop := s_Ex (d + 1) 0 mX2_orderByTerm 2 [some (.ref (o0)), some (.int (0)), none] [] w Q X
def vX2_orderByTerm_2 (d : Nat) (o0 : Nat) (x1 : Int32) (w : q_Sm) (Q : s_Po) (X : s_Xo) : Prop := (q_id 116 2 o0) ∧ (((w.1 o0 3) ≤ x1) → Q none w) ∧ (¬ ((w.1 o0 3) ≤ x1) → s_Ex (d + 1) 0 mX2_orderByTerm 12 [some (.ref (o0)), some (.int (x1)), some (.int (x1))] [] w Q X)
def vX2_orderByTerm_12 (d : Nat) (o0 : Nat) (x1 : Int32) (x2 : Int32) (w : q_Sm) (Q : s_Po) (X : s_Xo) : Prop := ((x2 ≤ 0) → (q_id 116 2 o0) ∧ (q_id 116 14 (o0 + 8)) ∧ (vp_in x2 (q_sh (o0 + 8)).2) ∧ ∀ w_2 : q_Sm, w_2 = q_wI w (o0 + 8) (Int32.toNatClampNeg x2) x1 → s_Ex (d + 1) 0 mX2_orderByTerm 2 [some (.ref (o0)), some (.int (x1 + 1)), none] [] w_2 Q X) ∧ (¬ (x2 ≤ 0) → (q_id 116 2 o0) ∧ (q_id 116 2 o0) ∧ (q_id 116 14 (o0 + 8)) ∧ (vp_in (x2 - 1) (q_sh (o0 + 8)).2) ∧ (q_id 116 14 (o0 + 7)) ∧ (vp_in (w.1 (o0 + 8) (Int32.toNatClampNeg (x2 - 1))) (q_sh (o0 + 7)).2) ∧ (q_id 116 2 o0) ∧ (q_id 116 14 (o0 + 7)) ∧ (vp_in x1 (q_sh (o0 + 7)).2) ∧ (((w.1 (o0 + 7) (Int32.toNatClampNeg (w.1 (o0 + 8) (Int32.toNatClampNeg (x2 - 1))))) ≤ (w.1 (o0 + 7) (Int32.toNatClampNeg x1))) → (q_id 116 2 o0) ∧ (q_id 116 14 (o0 + 8)) ∧ (vp_in x2 (q_sh (o0 + 8)).2) ∧ ∀ w_6 : q_Sm, w_6 = q_wI w (o0 + 8) (Int32.toNatClampNeg x2) x1 → s_Ex (d + 1) 0 mX2_orderByTerm 2 [some (.ref (o0)), some (.int (x1 + 1)), none] [] w_6 Q X) ∧ (¬ ((w.1 (o0 + 7) (Int32.toNatClampNeg (w.1 (o0 + 8) (Int32.toNatClampNeg (x2 - 1))))) ≤ (w.1 (o0 + 7) (Int32.toNatClampNeg x1))) → (q_id 116 2 o0) ∧ (q_id 116 2 o0) ∧ (q_id 116 14 (o0 + 8)) ∧ (vp_in (x2 - 1) (q_sh (o0 + 8)).2) ∧ (q_id 116 14 (o0 + 8)) ∧ (vp_in x2 (q_sh (o0 + 8)).2) ∧ ∀ w_10 : q_Sm, w_10 = q_wI w (o0 + 8) (Int32.toNatClampNeg x2) (w.1 (o0 + 8) (Int32.toNatClampNeg (x2 - 1))) → s_Ex (d + 1) 0 mX2_orderByTerm 12 [some (.ref (o0)), some (.int (x1)), some (.int (x2 + (-1)))] [] w_10 Q X))
theorem xX2_orderByTerm_0 {d : Nat} {o0 : Nat} {w : q_Sm} {Q : s_Po} {X : s_Xo} (h : vX2_orderByTerm_0 d o0 w Q X) : s_Ex (d + 1) 0 mX2_orderByTerm 0 [some (.ref (o0)), none, none] [] w Q X := by
  unfold vX2_orderByTerm_0 at h
  refine s_blk [(.iconst 0, 1, 0, 0), (.istore_n 1, 1, 0, 0)] 2 [some (.ref (o0)), some (.int (0)), none] [] w [] (by decide +kernel) (by refine qt_iconst qc_0 ?_; refine qt_istore_n (L' := [some (.ref (o0)), some (.int (0)), none]) rfl ?_; exact qt_z rfl rfl rfl rfl rfl) trivial ?_
  exact h
theorem xX2_orderByTerm_2 {d : Nat} {o0 : Nat} {x1 : Int32} {w : q_Sm} {Q : s_Po} {X : s_Xo} (h : vX2_orderByTerm_2 d o0 x1 w Q X) : s_Ex (d + 1) 0 mX2_orderByTerm 2 [some (.ref (o0)), some (.int (x1)), none] [] w Q X := by
  unfold vX2_orderByTerm_2 at h
  obtain ⟨ho1, h⟩ := h
  refine s_blk [(.iload_n 1, 1, 0, 0), (.aload_n 0, 1, 0, 0), (.getfield 81, 3, 2, 3)] 7 [some (.ref (o0)), some (.int (x1)), none] [.int (w.1 o0 3), .int (x1)] w [q_id 116 2 o0] (by decide +kernel) (by refine qt_iload_n (x := x1) rfl ?_; refine qt_aload_n (r := o0) rfl ?_; refine qt_getI rfl rfl ?_; exact qt_z rfl rfl rfl rfl rfl) ho1 ?_
  refine s_icmp (cd := .ge) (off := 64) 71 (by decide +kernel) (by decide) (fun hc => ?_) (fun hc => ?_)
  · replace h := h.1 hc
    exact s_retV (by decide +kernel) rfl h
  · replace h := h.2 hc
    refine s_blk [(.iload_n 1, 1, 0, 0), (.istore_n 2, 1, 0, 0)] 12 [some (.ref (o0)), some (.int (x1)), some (.int (x1))] [] w [] (by decide +kernel) (by refine qt_iload_n (x := x1) rfl ?_; refine qt_istore_n (L' := [some (.ref (o0)), some (.int (x1)), some (.int (x1))]) rfl ?_; exact qt_z rfl rfl rfl rfl rfl) trivial ?_
    exact h
theorem xX2_orderByTerm_12 {d : Nat} {o0 : Nat} {x1 : Int32} {x2 : Int32} {w : q_Sm} {Q : s_Po} {X : s_Xo} (h : vX2_orderByTerm_12 d o0 x1 x2 w Q X) : s_Ex (d + 1) 0 mX2_orderByTerm 12 [some (.ref (o0)), some (.int (x1)), some (.int (x2))] [] w Q X := by
  unfold vX2_orderByTerm_12 at h
  refine s_blk [(.iload_n 2, 1, 0, 0)] 13 [some (.ref (o0)), some (.int (x1)), some (.int (x2))] [.int (x2)] w [] (by decide +kernel) (by refine qt_iload_n (x := x2) rfl ?_; exact qt_z rfl rfl rfl rfl rfl) trivial ?_
  refine s_if (cd := .le) (off := 45) 58 (by decide +kernel) (by decide) (fun hc => ?_) (fun hc => ?_)
  · replace h := h.1 hc
    obtain ⟨ho3, h⟩ := h
    obtain ⟨ho4, h⟩ := h
    obtain ⟨ho5, h⟩ := h
    replace h := h _ rfl
    refine s_blk [(.aload_n 0, 1, 0, 0), (.getfield 33, 3, 2, 9), (.iload_n 2, 1, 0, 0), (.iload_n 1, 1, 0, 0), (.iastore, 1, 0, 0), (.iinc 1 1, 3, 0, 0), (.goto (-66), 3, 2, 0), (.nop, 0, 2, 0)] 2 [some (.ref (o0)), some (.int (x1 + 1)), none] [] (q_wI w (o0 + 8) (Int32.toNatClampNeg x2) x1) [q_id 116 2 o0, q_id 116 14 (o0 + 8), vp_in x2 (q_sh (o0 + 8)).2] (by decide +kernel) (by refine qt_aload_n (r := o0) rfl ?_; refine qt_getR (r := o0 + 8) rfl rfl rfl ?_; refine qt_iload_n (x := x2) rfl ?_; refine qt_iload_n (x := x1) rfl ?_; refine qt_iast ?_; refine qt_iinc (x := x1) (L' := [some (.ref (o0)), some (.int (x1 + 1)), some (.int (x2))]) rfl qc_1 rfl ?_; refine qt_goto ?_; refine qt_nop (L' := [some (.ref (o0)), some (.int (x1 + 1)), none]) rfl ?_; exact qt_z rfl rfl rfl rfl rfl) ⟨ho3, ho4, ho5⟩ ?_
    exact h
  · replace h := h.2 hc
    obtain ⟨ho17, h⟩ := h
    obtain ⟨ho18, h⟩ := h
    obtain ⟨ho19, h⟩ := h
    obtain ⟨ho20, h⟩ := h
    obtain ⟨ho21, h⟩ := h
    obtain ⟨ho22, h⟩ := h
    obtain ⟨ho23, h⟩ := h
    obtain ⟨ho24, h⟩ := h
    obtain ⟨ho25, h⟩ := h
    refine s_blk [(.aload_n 0, 1, 0, 0), (.getfield 30, 3, 2, 8), (.aload_n 0, 1, 0, 0), (.getfield 33, 3, 2, 9), (.iload_n 2, 1, 0, 0), (.iconst 1, 1, 0, 0), (.isub, 1, 0, 0), (.iaload, 1, 0, 0), (.iaload, 1, 0, 0), (.aload_n 0, 1, 0, 0), (.getfield 30, 3, 2, 8), (.iload_n 1, 1, 0, 0), (.iaload, 1, 0, 0)] 35 [some (.ref (o0)), some (.int (x1)), some (.int (x2))] [.int (w.1 (o0 + 7) (Int32.toNatClampNeg x1)), .int (w.1 (o0 + 7) (Int32.toNatClampNeg (w.1 (o0 + 8) (Int32.toNatClampNeg (x2 - 1)))))] w [q_id 116 2 o0, q_id 116 2 o0, q_id 116 14 (o0 + 8), vp_in (x2 - 1) (q_sh (o0 + 8)).2, q_id 116 14 (o0 + 7), vp_in (w.1 (o0 + 8) (Int32.toNatClampNeg (x2 - 1))) (q_sh (o0 + 7)).2, q_id 116 2 o0, q_id 116 14 (o0 + 7), vp_in x1 (q_sh (o0 + 7)).2] (by decide +kernel) (by refine qt_aload_n (r := o0) rfl ?_; refine qt_getR (r := o0 + 7) rfl rfl rfl ?_; refine qt_aload_n (r := o0) rfl ?_; refine qt_getR (r := o0 + 8) rfl rfl rfl ?_; refine qt_iload_n (x := x2) rfl ?_; refine qt_iconst qc_1 ?_; refine qt_isub ?_; refine qt_iald ?_; refine qt_iald ?_; refine qt_aload_n (r := o0) rfl ?_; refine qt_getR (r := o0 + 7) rfl rfl rfl ?_; refine qt_iload_n (x := x1) rfl ?_; refine qt_iald ?_; exact qt_z rfl rfl rfl rfl rfl) ⟨ho17, ho18, ho19, ho20, ho21, ho22, ho23, ho24, ho25⟩ ?_
    refine s_icmp (cd := .le) (off := 23) 58 (by decide +kernel) (by decide) (fun hc => ?_) (fun hc => ?_)
    · replace h := h.1 hc
      obtain ⟨ho7, h⟩ := h
      obtain ⟨ho8, h⟩ := h
      obtain ⟨ho9, h⟩ := h
      replace h := h _ rfl
      refine s_blk [(.aload_n 0, 1, 0, 0), (.getfield 33, 3, 2, 9), (.iload_n 2, 1, 0, 0), (.iload_n 1, 1, 0, 0), (.iastore, 1, 0, 0), (.iinc 1 1, 3, 0, 0), (.goto (-66), 3, 2, 0), (.nop, 0, 2, 0)] 2 [some (.ref (o0)), some (.int (x1 + 1)), none] [] (q_wI w (o0 + 8) (Int32.toNatClampNeg x2) x1) [q_id 116 2 o0, q_id 116 14 (o0 + 8), vp_in x2 (q_sh (o0 + 8)).2] (by decide +kernel) (by refine qt_aload_n (r := o0) rfl ?_; refine qt_getR (r := o0 + 8) rfl rfl rfl ?_; refine qt_iload_n (x := x2) rfl ?_; refine qt_iload_n (x := x1) rfl ?_; refine qt_iast ?_; refine qt_iinc (x := x1) (L' := [some (.ref (o0)), some (.int (x1 + 1)), some (.int (x2))]) rfl qc_1 rfl ?_; refine qt_goto ?_; refine qt_nop (L' := [some (.ref (o0)), some (.int (x1 + 1)), none]) rfl ?_; exact qt_z rfl rfl rfl rfl rfl) ⟨ho7, ho8, ho9⟩ ?_
      exact h
    · replace h := h.2 hc
      obtain ⟨ho11, h⟩ := h
      obtain ⟨ho12, h⟩ := h
      obtain ⟨ho13, h⟩ := h
      obtain ⟨ho14, h⟩ := h
      obtain ⟨ho15, h⟩ := h
      obtain ⟨ho16, h⟩ := h
      replace h := h _ rfl
      refine s_blk [(.aload_n 0, 1, 0, 0), (.getfield 33, 3, 2, 9), (.iload_n 2, 1, 0, 0), (.aload_n 0, 1, 0, 0), (.getfield 33, 3, 2, 9), (.iload_n 2, 1, 0, 0), (.iconst 1, 1, 0, 0), (.isub, 1, 0, 0), (.iaload, 1, 0, 0), (.iastore, 1, 0, 0), (.iinc 2 (-1), 3, 0, 0), (.goto (-43), 3, 12, 0)] 12 [some (.ref (o0)), some (.int (x1)), some (.int (x2 + (-1)))] [] (q_wI w (o0 + 8) (Int32.toNatClampNeg x2) (w.1 (o0 + 8) (Int32.toNatClampNeg (x2 - 1)))) [q_id 116 2 o0, q_id 116 2 o0, q_id 116 14 (o0 + 8), vp_in (x2 - 1) (q_sh (o0 + 8)).2, q_id 116 14 (o0 + 8), vp_in x2 (q_sh (o0 + 8)).2] (by decide +kernel) (by refine qt_aload_n (r := o0) rfl ?_; refine qt_getR (r := o0 + 8) rfl rfl rfl ?_; refine qt_iload_n (x := x2) rfl ?_; refine qt_aload_n (r := o0) rfl ?_; refine qt_getR (r := o0 + 8) rfl rfl rfl ?_; refine qt_iload_n (x := x2) rfl ?_; refine qt_iconst qc_1 ?_; refine qt_isub ?_; refine qt_iald ?_; refine qt_iast ?_; refine qt_iinc (x := x2) (L' := [some (.ref (o0)), some (.int (x1)), some (.int (x2 + (-1)))]) rfl qc_m1 rfl ?_; refine qt_goto ?_; exact qt_z rfl rfl rfl rfl rfl) ⟨ho11, ho12, ho13, ho14, ho15, ho16⟩ ?_
      exact h
theorem eX2_orderByTerm {d : Nat} {o0 : Nat} {w : q_Sm} {Q : s_Po} {X : s_Xo} (h : vX2_orderByTerm_0 d o0 w Q X) : s_Ev (d + 1) 0 mX2_orderByTerm w [.ref (o0)] Q X := s_of (by decide +kernel) rfl (Nat.le_of_ble_eq_true rfl) (xX2_orderByTerm_0 h)
def vX2_shine_0 (d : Nat) (o0 : Nat) (x1 : Int32) (x2 : Int32) (w : q_Sm) (Q : s_Po) (X : s_Xo) : Prop := (q_id 116 2 o0) ∧ (((w.1 o0 10) ≤ 0) → Q (some (.int (0))) w) ∧ (¬ ((w.1 o0 10) ≤ 0) → ((0 ≤ x1) → (q_id 116 2 o0) ∧ (q_id 116 2 o0) ∧ (¬ (w.1 o0 10) = 0) ∧ (q_id 116 14 (o0 + 9)) ∧ (vp_in (((x1 - x1 / (w.1 o0 10) * (w.1 o0 10)) * 4) + x2) (q_sh (o0 + 9)).2) ∧ Q (some (.int (w.1 (o0 + 9) (Int32.toNatClampNeg (((x1 - x1 / (w.1 o0 10) * (w.1 o0 10)) * 4) + x2))))) w) ∧ (¬ (0 ≤ x1) → Q (some (.int (0))) w))
theorem xX2_shine_0 {d : Nat} {o0 : Nat} {x1 : Int32} {x2 : Int32} {w : q_Sm} {Q : s_Po} {X : s_Xo} (h : vX2_shine_0 d o0 x1 x2 w Q X) : s_Ex (d + 1) 0 mX2_shine 0 [some (.ref (o0)), some (.int (x1)), some (.int (x2))] [] w Q X := by
  unfold vX2_shine_0 at h
  obtain ⟨ho6, h⟩ := h
  refine s_blk [(.aload_n 0, 1, 0, 0), (.getfield 84, 3, 2, 10)] 4 [some (.ref (o0)), some (.int (x1)), some (.int (x2))] [.int (w.1 o0 10)] w [q_id 116 2 o0] (by decide +kernel) (by refine qt_aload_n (r := o0) rfl ?_; refine qt_getI rfl rfl ?_; exact qt_z rfl rfl rfl rfl rfl) ho6 ?_
  refine s_if (cd := .le) (off := 7) 11 (by decide +kernel) (by decide) (fun hc => ?_) (fun hc => ?_)
  · replace h := h.1 hc
    refine s_blk [(.iconst 0, 1, 0, 0)] 12 [some (.ref (o0)), some (.int (x1)), some (.int (x2))] [.int (0)] w [] (by decide +kernel) (by refine qt_iconst qc_0 ?_; exact qt_z rfl rfl rfl rfl rfl) trivial ?_
    exact s_retI .int (by decide +kernel) rfl rfl h
  · replace h := h.2 hc
    refine s_blk [(.iload_n 1, 1, 0, 0)] 8 [some (.ref (o0)), some (.int (x1)), some (.int (x2))] [.int (x1)] w [] (by decide +kernel) (by refine qt_iload_n (x := x1) rfl ?_; exact qt_z rfl rfl rfl rfl rfl) trivial ?_
    refine s_if (cd := .ge) (off := 5) 13 (by decide +kernel) (by decide) (fun hc => ?_) (fun hc => ?_)
    · replace h := h.1 hc
      obtain ⟨ho1, h⟩ := h
      obtain ⟨ho2, h⟩ := h
      obtain ⟨ho3, h⟩ := h
      obtain ⟨ho4, h⟩ := h
      obtain ⟨ho5, h⟩ := h
      refine s_blk [(.aload_n 0, 1, 0, 0), (.getfield 36, 3, 2, 11), (.iload_n 1, 1, 0, 0), (.aload_n 0, 1, 0, 0), (.getfield 84, 3, 2, 10), (.irem, 1, 0, 0), (.iconst 4, 1, 0, 0), (.imul, 1, 0, 0), (.iload_n 2, 1, 0, 0), (.iadd, 1, 0, 0), (.iaload, 1, 0, 0)] 28 [some (.ref (o0)), some (.int (x1)), some (.int (x2))] [.int (w.1 (o0 + 9) (Int32.toNatClampNeg (((x1 - x1 / (w.1 o0 10) * (w.1 o0 10)) * 4) + x2)))] w [q_id 116 2 o0, q_id 116 2 o0, ¬ (w.1 o0 10) = 0, q_id 116 14 (o0 + 9), vp_in (((x1 - x1 / (w.1 o0 10) * (w.1 o0 10)) * 4) + x2) (q_sh (o0 + 9)).2] (by decide +kernel) (by refine qt_aload_n (r := o0) rfl ?_; refine qt_getR (r := o0 + 9) rfl rfl rfl ?_; refine qt_iload_n (x := x1) rfl ?_; refine qt_aload_n (r := o0) rfl ?_; refine qt_getI rfl rfl ?_; refine qt_irem ?_; refine qt_iconst qc_4 ?_; refine qt_imul ?_; refine qt_iload_n (x := x2) rfl ?_; refine qt_iadd ?_; refine qt_iald ?_; exact qt_z rfl rfl rfl rfl rfl) ⟨ho1, ho2, ho3, ho4, ho5⟩ ?_
      exact s_retI .int (by decide +kernel) rfl rfl h
    · replace h := h.2 hc
      refine s_blk [(.iconst 0, 1, 0, 0)] 12 [some (.ref (o0)), some (.int (x1)), some (.int (x2))] [.int (0)] w [] (by decide +kernel) (by refine qt_iconst qc_0 ?_; exact qt_z rfl rfl rfl rfl rfl) trivial ?_
      exact s_retI .int (by decide +kernel) rfl rfl h
theorem eX2_shine {d : Nat} {o0 : Nat} {x1 : Int32} {x2 : Int32} {w : q_Sm} {Q : s_Po} {X : s_Xo} (h : vX2_shine_0 d o0 x1 x2 w Q X) : s_Ev (d + 1) 0 mX2_shine w [.ref (o0), .int (x1), .int (x2)] Q X := s_of (by decide +kernel) rfl (Nat.le_of_ble_eq_true rfl) (xX2_shine_0 h)
def vX2_fittingDusks_0 (d : Nat) (o0 : Nat) (x1 : Int32) (w : q_Sm) (Q : s_Po) (X : s_Xo) : Prop := s_Ex (d + 1) 0 mX2_fittingDusks 5 [some (.ref (o0)), some (.int (x1)), some (.long ((0 : Int64))), none, some (.int (0))] [] w Q X
def vX2_fittingDusks_5 (d : Nat) (o0 : Nat) (x1 : Int32) (x2 : Int64) (x4 : Int32) (w : q_Sm) (Q : s_Po) (X : s_Xo) : Prop := (q_id 116 2 o0) ∧ (q_id 116 14 (o0 + 14)) ∧ (vp_in x1 (q_sh (o0 + 14)).2) ∧ (((w.1 (o0 + 14) (Int32.toNatClampNeg x1)) < x4) → Q (some (.long (x2))) w) ∧ (¬ ((w.1 (o0 + 14) (Int32.toNatClampNeg x1)) < x4) → (q_id 116 2 o0) ∧ (q_id 116 14 (o0 + 12)) ∧ (vp_in x1 (q_sh (o0 + 12)).2) ∧ q_id 116 2 o0 ∧ s_EvI d 0 mX2_shine w [.ref (o0), .int (x4), .int (w.1 (o0 + 12) (Int32.toNatClampNeg x1))] (fun v1 u2 => (q_id 116 2 o0) ∧ (q_id 116 14 (o0 + 13)) ∧ (vp_in x1 (q_sh (o0 + 13)).2) ∧ ((v1 < (u2.1 (o0 + 13) (Int32.toNatClampNeg x1))) → s_Ex (d + 1) 0 mX2_fittingDusks 5 [some (.ref (o0)), some (.int (x1)), some (.long (x2)), none, some (.int (x4 + 1))] [] u2 Q X) ∧ (¬ (v1 < (u2.1 (o0 + 13) (Int32.toNatClampNeg x1))) → s_Ex (d + 1) 0 mX2_fittingDusks 5 [some (.ref (o0)), some (.int (x1)), some (.long (x2 ||| ((1 : Int64) <<< (Int32.toInt64 x4 &&& 63)))), none, some (.int (x4 + 1))] [] u2 Q X)) X)
theorem xX2_fittingDusks_0 {d : Nat} {o0 : Nat} {x1 : Int32} {w : q_Sm} {Q : s_Po} {X : s_Xo} (h : vX2_fittingDusks_0 d o0 x1 w Q X) : s_Ex (d + 1) 0 mX2_fittingDusks 0 [some (.ref (o0)), some (.int (x1)), none, none, none] [] w Q X := by
  unfold vX2_fittingDusks_0 at h
  refine s_blk [(.lconst 0, 1, 0, 0), (.lstore_n 2, 1, 0, 0), (.iconst 0, 1, 0, 0), (.istore 4, 2, 0, 0)] 5 [some (.ref (o0)), some (.int (x1)), some (.long ((0 : Int64))), none, some (.int (0))] [] w [] (by decide +kernel) (by refine qt_lconst (vl := 0) (by decide) ?_; refine qt_lstore_n (L' := [some (.ref (o0)), some (.int (x1)), some (.long ((0 : Int64))), none, none]) rfl ?_; refine qt_iconst qc_0 ?_; refine qt_istore (L' := [some (.ref (o0)), some (.int (x1)), some (.long ((0 : Int64))), none, some (.int (0))]) rfl ?_; exact qt_z rfl rfl rfl rfl rfl) trivial ?_
  exact h
theorem xX2_fittingDusks_5 {d : Nat} {o0 : Nat} {x1 : Int32} {x2 : Int64} {x4 : Int32} {w : q_Sm} {Q : s_Po} {X : s_Xo} (h : vX2_fittingDusks_5 d o0 x1 x2 x4 w Q X) : s_Ex (d + 1) 0 mX2_fittingDusks 5 [some (.ref (o0)), some (.int (x1)), some (.long (x2)), none, some (.int (x4))] [] w Q X := by
  unfold vX2_fittingDusks_5 at h
  obtain ⟨ho9, h⟩ := h
  obtain ⟨ho10, h⟩ := h
  obtain ⟨ho11, h⟩ := h
  refine s_blk [(.iload 4, 2, 0, 0), (.aload_n 0, 1, 0, 0), (.getfield 51, 3, 2, 17), (.iload_n 1, 1, 0, 0), (.iaload, 1, 0, 0)] 13 [some (.ref (o0)), some (.int (x1)), some (.long (x2)), none, some (.int (x4))] [.int (w.1 (o0 + 14) (Int32.toNatClampNeg x1)), .int (x4)] w [q_id 116 2 o0, q_id 116 14 (o0 + 14), vp_in x1 (q_sh (o0 + 14)).2] (by decide +kernel) (by refine qt_iload (x := x4) rfl ?_; refine qt_aload_n (r := o0) rfl ?_; refine qt_getR (r := o0 + 14) rfl rfl rfl ?_; refine qt_iload_n (x := x1) rfl ?_; refine qt_iald ?_; exact qt_z rfl rfl rfl rfl rfl) ⟨ho9, ho10, ho11⟩ ?_
  refine s_icmp (cd := .gt) (off := 37) 50 (by decide +kernel) (by decide) (fun hc => ?_) (fun hc => ?_)
  · replace h := h.1 hc
    refine s_blk [(.lload_n 2, 1, 0, 0)] 51 [some (.ref (o0)), some (.int (x1)), some (.long (x2)), none, some (.int (x4))] [.long (x2)] w [] (by decide +kernel) (by refine qt_lload_n (xl := x2) rfl ?_; exact qt_z rfl rfl rfl rfl rfl) trivial ?_
    exact s_retJ (by decide +kernel) rfl h
  · replace h := h.2 hc
    obtain ⟨ho6, h⟩ := h
    obtain ⟨ho7, h⟩ := h
    obtain ⟨ho8, h⟩ := h
    refine s_blk [(.aload_n 0, 1, 0, 0), (.iload 4, 2, 0, 0), (.aload_n 0, 1, 0, 0), (.getfield 45, 3, 2, 15), (.iload_n 1, 1, 0, 0), (.iaload, 1, 0, 0)] 25 [some (.ref (o0)), some (.int (x1)), some (.long (x2)), none, some (.int (x4))] [.int (w.1 (o0 + 12) (Int32.toNatClampNeg x1)), .int (x4), .ref (o0)] w [q_id 116 2 o0, q_id 116 14 (o0 + 12), vp_in x1 (q_sh (o0 + 12)).2] (by decide +kernel) (by refine qt_aload_n (r := o0) rfl ?_; refine qt_iload (x := x4) rfl ?_; refine qt_aload_n (r := o0) rfl ?_; refine qt_getR (r := o0 + 12) rfl rfl rfl ?_; refine qt_iload_n (x := x1) rfl ?_; refine qt_iald ?_; exact qt_z rfl rfl rfl rfl rfl) ⟨ho6, ho7, ho8⟩ ?_
    obtain ⟨hid, h⟩ := h
    refine s_callV (a := 0) (a' := 0) (As := [.int (x4), .int (w.1 (o0 + 12) (Int32.toNatClampNeg x1))]) (id := o0) (st := []) kX2_shine l_2_170 (by decide +kernel) hid rfl (Nat.le_of_ble_eq_true rfl) (s_mono h (s_I_of (fun v1 u2 h => ?_)) (fun _ _ h9 => h9))
    show s_Ex (d + 1) 0 mX2_fittingDusks 28 [some (.ref (o0)), some (.int (x1)), some (.long (x2)), none, some (.int (x4))] [.int (v1)] u2 Q X
    obtain ⟨ho3, h⟩ := h
    obtain ⟨ho4, h⟩ := h
    obtain ⟨ho5, h⟩ := h
    refine s_blk [(.aload_n 0, 1, 0, 0), (.getfield 48, 3, 2, 16), (.iload_n 1, 1, 0, 0), (.iaload, 1, 0, 0)] 34 [some (.ref (o0)), some (.int (x1)), some (.long (x2)), none, some (.int (x4))] [.int (u2.1 (o0 + 13) (Int32.toNatClampNeg x1)), .int (v1)] u2 [q_id 116 2 o0, q_id 116 14 (o0 + 13), vp_in x1 (q_sh (o0 + 13)).2] (by decide +kernel) (by refine qt_aload_n (r := o0) rfl ?_; refine qt_getR (r := o0 + 13) rfl rfl rfl ?_; refine qt_iload_n (x := x1) rfl ?_; refine qt_iald ?_; exact qt_z rfl rfl rfl rfl rfl) ⟨ho3, ho4, ho5⟩ ?_
    refine s_icmp (cd := .lt) (off := 10) 44 (by decide +kernel) (by decide) (fun hc => ?_) (fun hc => ?_)
    · replace h := h.1 hc
      refine s_blk [(.iinc 4 1, 3, 0, 0), (.goto (-42), 3, 5, 0)] 5 [some (.ref (o0)), some (.int (x1)), some (.long (x2)), none, some (.int (x4 + 1))] [] u2 [] (by decide +kernel) (by refine qt_iinc (x := x4) (L' := [some (.ref (o0)), some (.int (x1)), some (.long (x2)), none, some (.int (x4 + 1))]) rfl qc_1 rfl ?_; refine qt_goto ?_; exact qt_z rfl rfl rfl rfl rfl) trivial ?_
      exact h
    · replace h := h.2 hc
      refine s_blk [(.lload_n 2, 1, 0, 0), (.lconst 1, 1, 0, 0), (.iload 4, 2, 0, 0), (.lshl, 1, 0, 0), (.lor, 1, 0, 0), (.lstore_n 2, 1, 0, 0), (.iinc 4 1, 3, 0, 0), (.goto (-42), 3, 5, 0)] 5 [some (.ref (o0)), some (.int (x1)), some (.long (x2 ||| ((1 : Int64) <<< (Int32.toInt64 x4 &&& 63)))), none, some (.int (x4 + 1))] [] u2 [] (by decide +kernel) (by refine qt_lload_n (xl := x2) rfl ?_; refine qt_lconst (vl := 1) (by decide) ?_; refine qt_iload (x := x4) rfl ?_; refine qt_lshl ?_; refine qt_lor ?_; refine qt_lstore_n (L' := [some (.ref (o0)), some (.int (x1)), some (.long (x2 ||| ((1 : Int64) <<< (Int32.toInt64 x4 &&& 63)))), none, some (.int (x4))]) rfl ?_; refine qt_iinc (x := x4) (L' := [some (.ref (o0)), some (.int (x1)), some (.long (x2 ||| ((1 : Int64) <<< (Int32.toInt64 x4 &&& 63)))), none, some (.int (x4 + 1))]) rfl qc_1 rfl ?_; refine qt_goto ?_; exact qt_z rfl rfl rfl rfl rfl) trivial ?_
      exact h
theorem eX2_fittingDusks {d : Nat} {o0 : Nat} {x1 : Int32} {w : q_Sm} {Q : s_Po} {X : s_Xo} (h : vX2_fittingDusks_0 d o0 x1 w Q X) : s_Ev (d + 1) 0 mX2_fittingDusks w [.ref (o0), .int (x1)] Q X := s_of (by decide +kernel) rfl (Nat.le_of_ble_eq_true rfl) (xX2_fittingDusks_0 h)
def vX2_showsSea_0 (d : Nat) (o0 : Nat) (x1 : Int32) (x2 : Int32) (w : q_Sm) (Q : s_Po) (X : s_Xo) : Prop := (q_id 116 2 o0) ∧ (q_id 116 14 (o0 + 10)) ∧ (vp_in x1 (q_sh (o0 + 10)).2) ∧ s_Ex (d + 1) 0 mX2_showsSea 12 [some (.ref (o0)), some (.int (x1)), none, some (.int (x2 + (w.1 (o0 + 10) (Int32.toNatClampNeg x1)))), some (.int (0))] [] w Q X
def vX2_showsSea_12 (d : Nat) (o0 : Nat) (x1 : Int32) (x3 : Int32) (x4 : Int32) (w : q_Sm) (Q : s_Po) (X : s_Xo) : Prop := ((x1 ≤ x4) → Q (some (.int (1))) w) ∧ (¬ (x1 ≤ x4) → (q_id 116 2 o0) ∧ (q_id 116 14 (o0 + 10)) ∧ (vp_in x4 (q_sh (o0 + 10)).2) ∧ ((((w.1 (o0 + 10) (Int32.toNatClampNeg x4)) * (x1 + 1)) < (x3 * (x4 + 1))) → s_Ex (d + 1) 0 mX2_showsSea 12 [some (.ref (o0)), some (.int (x1)), none, some (.int (x3)), some (.int (x4 + 1))] [] w Q X) ∧ (¬ (((w.1 (o0 + 10) (Int32.toNatClampNeg x4)) * (x1 + 1)) < (x3 * (x4 + 1))) → Q (some (.int (0))) w))
theorem xX2_showsSea_0 {d : Nat} {o0 : Nat} {x1 : Int32} {x2 : Int32} {w : q_Sm} {Q : s_Po} {X : s_Xo} (h : vX2_showsSea_0 d o0 x1 x2 w Q X) : s_Ex (d + 1) 0 mX2_showsSea 0 [some (.ref (o0)), some (.int (x1)), some (.int (x2)), none, none] [] w Q X := by
  unfold vX2_showsSea_0 at h
  obtain ⟨ho1, h⟩ := h
  obtain ⟨ho2, h⟩ := h
  obtain ⟨ho3, h⟩ := h
  refine s_blk [(.iload_n 2, 1, 0, 0), (.aload_n 0, 1, 0, 0), (.getfield 39, 3, 2, 12), (.iload_n 1, 1, 0, 0), (.iaload, 1, 0, 0), (.iadd, 1, 0, 0), (.istore_n 3, 1, 0, 0), (.iconst 0, 1, 0, 0), (.istore 4, 2, 0, 0), (.nop, 0, 2, 0)] 12 [some (.ref (o0)), some (.int (x1)), none, some (.int (x2 + (w.1 (o0 + 10) (Int32.toNatClampNeg x1)))), some (.int (0))] [] w [q_id 116 2 o0, q_id 116 14 (o0 + 10), vp_in x1 (q_sh (o0 + 10)).2] (by decide +kernel) (by refine qt_iload_n (x := x2) rfl ?_; refine qt_aload_n (r := o0) rfl ?_; refine qt_getR (r := o0 + 10) rfl rfl rfl ?_; refine qt_iload_n (x := x1) rfl ?_; refine qt_iald ?_; refine qt_iadd ?_; refine qt_istore_n (L' := [some (.ref (o0)), some (.int (x1)), some (.int (x2)), some (.int (x2 + (w.1 (o0 + 10) (Int32.toNatClampNeg x1)))), none]) rfl ?_; refine qt_iconst qc_0 ?_; refine qt_istore (L' := [some (.ref (o0)), some (.int (x1)), some (.int (x2)), some (.int (x2 + (w.1 (o0 + 10) (Int32.toNatClampNeg x1)))), some (.int (0))]) rfl ?_; refine qt_nop (L' := [some (.ref (o0)), some (.int (x1)), none, some (.int (x2 + (w.1 (o0 + 10) (Int32.toNatClampNeg x1)))), some (.int (0))]) rfl ?_; exact qt_z rfl rfl rfl rfl rfl) ⟨ho1, ho2, ho3⟩ ?_
  exact h
theorem xX2_showsSea_12 {d : Nat} {o0 : Nat} {x1 : Int32} {x3 : Int32} {x4 : Int32} {w : q_Sm} {Q : s_Po} {X : s_Xo} (h : vX2_showsSea_12 d o0 x1 x3 x4 w Q X) : s_Ex (d + 1) 0 mX2_showsSea 12 [some (.ref (o0)), some (.int (x1)), none, some (.int (x3)), some (.int (x4))] [] w Q X := by
  unfold vX2_showsSea_12 at h
  refine s_blk [(.iload 4, 2, 0, 0), (.iload_n 1, 1, 0, 0)] 15 [some (.ref (o0)), some (.int (x1)), none, some (.int (x3)), some (.int (x4))] [.int (x1), .int (x4)] w [] (by decide +kernel) (by refine qt_iload (x := x4) rfl ?_; refine qt_iload_n (x := x1) rfl ?_; exact qt_z rfl rfl rfl rfl rfl) trivial ?_
  refine s_icmp (cd := .ge) (off := 31) 46 (by decide +kernel) (by decide) (fun hc => ?_) (fun hc => ?_)
  · replace h := h.1 hc
    refine s_blk [(.iconst 1, 1, 0, 0)] 47 [some (.ref (o0)), some (.int (x1)), none, some (.int (x3)), some (.int (x4))] [.int (1)] w [] (by decide +kernel) (by refine qt_iconst qc_1 ?_; exact qt_z rfl rfl rfl rfl rfl) trivial ?_
    exact s_retI .boolean (by decide +kernel) rfl rfl h
  · replace h := h.2 hc
    obtain ⟨ho4, h⟩ := h
    obtain ⟨ho5, h⟩ := h
    obtain ⟨ho6, h⟩ := h
    refine s_blk [(.aload_n 0, 1, 0, 0), (.getfield 39, 3, 2, 12), (.iload 4, 2, 0, 0), (.iaload, 1, 0, 0), (.iload_n 1, 1, 0, 0), (.iconst 1, 1, 0, 0), (.iadd, 1, 0, 0), (.imul, 1, 0, 0), (.iload_n 3, 1, 0, 0), (.iload 4, 2, 0, 0), (.iconst 1, 1, 0, 0), (.iadd, 1, 0, 0), (.imul, 1, 0, 0)] 35 [some (.ref (o0)), some (.int (x1)), none, some (.int (x3)), some (.int (x4))] [.int (x3 * (x4 + 1)), .int ((w.1 (o0 + 10) (Int32.toNatClampNeg x4)) * (x1 + 1))] w [q_id 116 2 o0, q_id 116 14 (o0 + 10), vp_in x4 (q_sh (o0 + 10)).2] (by decide +kernel) (by refine qt_aload_n (r := o0) rfl ?_; refine qt_getR (r := o0 + 10) rfl rfl rfl ?_; refine qt_iload (x := x4) rfl ?_; refine qt_iald ?_; refine qt_iload_n (x := x1) rfl ?_; refine qt_iconst qc_1 ?_; refine qt_iadd ?_; refine qt_imul ?_; refine qt_iload_n (x := x3) rfl ?_; refine qt_iload (x := x4) rfl ?_; refine qt_iconst qc_1 ?_; refine qt_iadd ?_; refine qt_imul ?_; exact qt_z rfl rfl rfl rfl rfl) ⟨ho4, ho5, ho6⟩ ?_
    refine s_icmp (cd := .lt) (off := 5) 40 (by decide +kernel) (by decide) (fun hc => ?_) (fun hc => ?_)
    · replace h := h.1 hc
      refine s_blk [(.iinc 4 1, 3, 0, 0), (.goto (-31), 3, 12, 0)] 12 [some (.ref (o0)), some (.int (x1)), none, some (.int (x3)), some (.int (x4 + 1))] [] w [] (by decide +kernel) (by refine qt_iinc (x := x4) (L' := [some (.ref (o0)), some (.int (x1)), none, some (.int (x3)), some (.int (x4 + 1))]) rfl qc_1 rfl ?_; refine qt_goto ?_; exact qt_z rfl rfl rfl rfl rfl) trivial ?_
      exact h
    · replace h := h.2 hc
      refine s_blk [(.iconst 0, 1, 0, 0)] 39 [some (.ref (o0)), some (.int (x1)), none, some (.int (x3)), some (.int (x4))] [.int (0)] w [] (by decide +kernel) (by refine qt_iconst qc_0 ?_; exact qt_z rfl rfl rfl rfl rfl) trivial ?_
      exact s_retI .boolean (by decide +kernel) rfl rfl h
theorem eX2_showsSea {d : Nat} {o0 : Nat} {x1 : Int32} {x2 : Int32} {w : q_Sm} {Q : s_Po} {X : s_Xo} (h : vX2_showsSea_0 d o0 x1 x2 w Q X) : s_Ev (d + 1) 0 mX2_showsSea w [.ref (o0), .int (x1), .int (x2)] Q X := s_of (by decide +kernel) rfl (Nat.le_of_ble_eq_true rfl) (xX2_showsSea_0 h)
def vX2_firstSeat_0 (d : Nat) (o0 : Nat) (x1 : Int32) (w : q_Sm) (Q : s_Po) (X : s_Xo) : Prop := s_Ex (d + 1) 0 mX2_firstSeat 4 [some (.ref (o0)), some (.int (x1)), some (.int (-1)), some (.int (0))] [] w Q X
def vX2_firstSeat_4 (d : Nat) (o0 : Nat) (x1 : Int32) (x2 : Int32) (x3 : Int32) (w : q_Sm) (Q : s_Po) (X : s_Xo) : Prop := (q_id 116 2 o0) ∧ (((w.1 o0 0) ≤ x3) → Q (some (.int (x2))) w) ∧ (¬ ((w.1 o0 0) ≤ x3) → (q_id 116 2 o0) ∧ (q_id 116 14 (o0 + 1)) ∧ (vp_in x3 (q_sh (o0 + 1)).2) ∧ (((w.1 (o0 + 1) (Int32.toNatClampNeg x3)) < x1) → s_Ex (d + 1) 0 mX2_firstSeat 4 [some (.ref (o0)), some (.int (x1)), some (.int (x2)), some (.int (x3 + 1))] [] w Q X) ∧ (¬ ((w.1 (o0 + 1) (Int32.toNatClampNeg x3)) < x1) → ((x2 = (-1)) → (q_id 116 2 o0) ∧ (q_id 116 14 (o0 + 1)) ∧ (vp_in x3 (q_sh (o0 + 1)).2) ∧ s_Ex (d + 1) 0 mX2_firstSeat 4 [some (.ref (o0)), some (.int (x1)), some (.int (w.1 (o0 + 1) (Int32.toNatClampNeg x3))), some (.int (x3 + 1))] [] w Q X) ∧ (¬ (x2 = (-1)) → (q_id 116 2 o0) ∧ (q_id 116 14 (o0 + 1)) ∧ (vp_in x3 (q_sh (o0 + 1)).2) ∧ ((x2 ≤ (w.1 (o0 + 1) (Int32.toNatClampNeg x3))) → s_Ex (d + 1) 0 mX2_firstSeat 4 [some (.ref (o0)), some (.int (x1)), some (.int (x2)), some (.int (x3 + 1))] [] w Q X) ∧ (¬ (x2 ≤ (w.1 (o0 + 1) (Int32.toNatClampNeg x3))) → (q_id 116 2 o0) ∧ (q_id 116 14 (o0 + 1)) ∧ (vp_in x3 (q_sh (o0 + 1)).2) ∧ s_Ex (d + 1) 0 mX2_firstSeat 4 [some (.ref (o0)), some (.int (x1)), some (.int (w.1 (o0 + 1) (Int32.toNatClampNeg x3))), some (.int (x3 + 1))] [] w Q X))))
theorem xX2_firstSeat_0 {d : Nat} {o0 : Nat} {x1 : Int32} {w : q_Sm} {Q : s_Po} {X : s_Xo} (h : vX2_firstSeat_0 d o0 x1 w Q X) : s_Ex (d + 1) 0 mX2_firstSeat 0 [some (.ref (o0)), some (.int (x1)), none, none] [] w Q X := by
  unfold vX2_firstSeat_0 at h
  refine s_blk [(.iconst (-1), 1, 0, 0), (.istore_n 2, 1, 0, 0), (.iconst 0, 1, 0, 0), (.istore_n 3, 1, 0, 0)] 4 [some (.ref (o0)), some (.int (x1)), some (.int (-1)), some (.int (0))] [] w [] (by decide +kernel) (by refine qt_iconst qc_m1 ?_; refine qt_istore_n (L' := [some (.ref (o0)), some (.int (x1)), some (.int (-1)), none]) rfl ?_; refine qt_iconst qc_0 ?_; refine qt_istore_n (L' := [some (.ref (o0)), some (.int (x1)), some (.int (-1)), some (.int (0))]) rfl ?_; exact qt_z rfl rfl rfl rfl rfl) trivial ?_
  exact h
theorem xX2_firstSeat_4 {d : Nat} {o0 : Nat} {x1 : Int32} {x2 : Int32} {x3 : Int32} {w : q_Sm} {Q : s_Po} {X : s_Xo} (h : vX2_firstSeat_4 d o0 x1 x2 x3 w Q X) : s_Ex (d + 1) 0 mX2_firstSeat 4 [some (.ref (o0)), some (.int (x1)), some (.int (x2)), some (.int (x3))] [] w Q X := by
  unfold vX2_firstSeat_4 at h
  obtain ⟨ho13, h⟩ := h
  refine s_blk [(.iload_n 3, 1, 0, 0), (.aload_n 0, 1, 0, 0), (.getfield 77, 3, 2, 0)] 9 [some (.ref (o0)), some (.int (x1)), some (.int (x2)), some (.int (x3))] [.int (w.1 o0 0), .int (x3)] w [q_id 116 2 o0] (by decide +kernel) (by refine qt_iload_n (x := x3) rfl ?_; refine qt_aload_n (r := o0) rfl ?_; refine qt_getI rfl rfl ?_; exact qt_z rfl rfl rfl rfl rfl) ho13 ?_
  refine s_icmp (cd := .ge) (off := 41) 50 (by decide +kernel) (by decide) (fun hc => ?_) (fun hc => ?_)
  · replace h := h.1 hc
    refine s_blk [(.iload_n 2, 1, 0, 0)] 51 [some (.ref (o0)), some (.int (x1)), some (.int (x2)), some (.int (x3))] [.int (x2)] w [] (by decide +kernel) (by refine qt_iload_n (x := x2) rfl ?_; exact qt_z rfl rfl rfl rfl rfl) trivial ?_
    exact s_retI .int (by decide +kernel) rfl rfl h
  · replace h := h.2 hc
    obtain ⟨ho10, h⟩ := h
    obtain ⟨ho11, h⟩ := h
    obtain ⟨ho12, h⟩ := h
    refine s_blk [(.aload_n 0, 1, 0, 0), (.getfield 9, 3, 2, 1), (.iload_n 3, 1, 0, 0), (.iaload, 1, 0, 0), (.iload_n 1, 1, 0, 0)] 19 [some (.ref (o0)), some (.int (x1)), some (.int (x2)), some (.int (x3))] [.int (x1), .int (w.1 (o0 + 1) (Int32.toNatClampNeg x3))] w [q_id 116 2 o0, q_id 116 14 (o0 + 1), vp_in x3 (q_sh (o0 + 1)).2] (by decide +kernel) (by refine qt_aload_n (r := o0) rfl ?_; refine qt_getR (r := o0 + 1) rfl rfl rfl ?_; refine qt_iload_n (x := x3) rfl ?_; refine qt_iald ?_; refine qt_iload_n (x := x1) rfl ?_; exact qt_z rfl rfl rfl rfl rfl) ⟨ho10, ho11, ho12⟩ ?_
    refine s_icmp (cd := .lt) (off := 25) 44 (by decide +kernel) (by decide) (fun hc => ?_) (fun hc => ?_)
    · replace h := h.1 hc
      refine s_blk [(.iinc 3 1, 3, 0, 0), (.goto (-43), 3, 4, 0)] 4 [some (.ref (o0)), some (.int (x1)), some (.int (x2)), some (.int (x3 + 1))] [] w [] (by decide +kernel) (by refine qt_iinc (x := x3) (L' := [some (.ref (o0)), some (.int (x1)), some (.int (x2)), some (.int (x3 + 1))]) rfl qc_1 rfl ?_; refine qt_goto ?_; exact qt_z rfl rfl rfl rfl rfl) trivial ?_
      exact h
    · replace h := h.2 hc
      refine s_blk [(.iload_n 2, 1, 0, 0), (.iconst (-1), 1, 0, 0)] 24 [some (.ref (o0)), some (.int (x1)), some (.int (x2)), some (.int (x3))] [.int (-1), .int (x2)] w [] (by decide +kernel) (by refine qt_iload_n (x := x2) rfl ?_; refine qt_iconst qc_m1 ?_; exact qt_z rfl rfl rfl rfl rfl) trivial ?_
      refine s_icmp (cd := .eq) (off := 13) 37 (by decide +kernel) (by decide) (fun hc => ?_) (fun hc => ?_)
      · replace h := h.1 hc
        obtain ⟨ho1, h⟩ := h
        obtain ⟨ho2, h⟩ := h
        obtain ⟨ho3, h⟩ := h
        refine s_blk [(.aload_n 0, 1, 0, 0), (.getfield 9, 3, 2, 1), (.iload_n 3, 1, 0, 0), (.iaload, 1, 0, 0), (.istore_n 2, 1, 0, 0), (.iinc 3 1, 3, 0, 0), (.goto (-43), 3, 4, 0)] 4 [some (.ref (o0)), some (.int (x1)), some (.int (w.1 (o0 + 1) (Int32.toNatClampNeg x3))), some (.int (x3 + 1))] [] w [q_id 116 2 o0, q_id 116 14 (o0 + 1), vp_in x3 (q_sh (o0 + 1)).2] (by decide +kernel) (by refine qt_aload_n (r := o0) rfl ?_; refine qt_getR (r := o0 + 1) rfl rfl rfl ?_; refine qt_iload_n (x := x3) rfl ?_; refine qt_iald ?_; refine qt_istore_n (L' := [some (.ref (o0)), some (.int (x1)), some (.int (w.1 (o0 + 1) (Int32.toNatClampNeg x3))), some (.int (x3))]) rfl ?_; refine qt_iinc (x := x3) (L' := [some (.ref (o0)), some (.int (x1)), some (.int (w.1 (o0 + 1) (Int32.toNatClampNeg x3))), some (.int (x3 + 1))]) rfl qc_1 rfl ?_; refine qt_goto ?_; exact qt_z rfl rfl rfl rfl rfl) ⟨ho1, ho2, ho3⟩ ?_
        exact h
      · replace h := h.2 hc
        obtain ⟨ho7, h⟩ := h
        obtain ⟨ho8, h⟩ := h
        obtain ⟨ho9, h⟩ := h
        refine s_blk [(.aload_n 0, 1, 0, 0), (.getfield 9, 3, 2, 1), (.iload_n 3, 1, 0, 0), (.iaload, 1, 0, 0), (.iload_n 2, 1, 0, 0)] 34 [some (.ref (o0)), some (.int (x1)), some (.int (x2)), some (.int (x3))] [.int (x2), .int (w.1 (o0 + 1) (Int32.toNatClampNeg x3))] w [q_id 116 2 o0, q_id 116 14 (o0 + 1), vp_in x3 (q_sh (o0 + 1)).2] (by decide +kernel) (by refine qt_aload_n (r := o0) rfl ?_; refine qt_getR (r := o0 + 1) rfl rfl rfl ?_; refine qt_iload_n (x := x3) rfl ?_; refine qt_iald ?_; refine qt_iload_n (x := x2) rfl ?_; exact qt_z rfl rfl rfl rfl rfl) ⟨ho7, ho8, ho9⟩ ?_
        refine s_icmp (cd := .ge) (off := 10) 44 (by decide +kernel) (by decide) (fun hc => ?_) (fun hc => ?_)
        · replace h := h.1 hc
          refine s_blk [(.iinc 3 1, 3, 0, 0), (.goto (-43), 3, 4, 0)] 4 [some (.ref (o0)), some (.int (x1)), some (.int (x2)), some (.int (x3 + 1))] [] w [] (by decide +kernel) (by refine qt_iinc (x := x3) (L' := [some (.ref (o0)), some (.int (x1)), some (.int (x2)), some (.int (x3 + 1))]) rfl qc_1 rfl ?_; refine qt_goto ?_; exact qt_z rfl rfl rfl rfl rfl) trivial ?_
          exact h
        · replace h := h.2 hc
          obtain ⟨ho4, h⟩ := h
          obtain ⟨ho5, h⟩ := h
          obtain ⟨ho6, h⟩ := h
          refine s_blk [(.aload_n 0, 1, 0, 0), (.getfield 9, 3, 2, 1), (.iload_n 3, 1, 0, 0), (.iaload, 1, 0, 0), (.istore_n 2, 1, 0, 0), (.iinc 3 1, 3, 0, 0), (.goto (-43), 3, 4, 0)] 4 [some (.ref (o0)), some (.int (x1)), some (.int (w.1 (o0 + 1) (Int32.toNatClampNeg x3))), some (.int (x3 + 1))] [] w [q_id 116 2 o0, q_id 116 14 (o0 + 1), vp_in x3 (q_sh (o0 + 1)).2] (by decide +kernel) (by refine qt_aload_n (r := o0) rfl ?_; refine qt_getR (r := o0 + 1) rfl rfl rfl ?_; refine qt_iload_n (x := x3) rfl ?_; refine qt_iald ?_; refine qt_istore_n (L' := [some (.ref (o0)), some (.int (x1)), some (.int (w.1 (o0 + 1) (Int32.toNatClampNeg x3))), some (.int (x3))]) rfl ?_; refine qt_iinc (x := x3) (L' := [some (.ref (o0)), some (.int (x1)), some (.int (w.1 (o0 + 1) (Int32.toNatClampNeg x3))), some (.int (x3 + 1))]) rfl qc_1 rfl ?_; refine qt_goto ?_; exact qt_z rfl rfl rfl rfl rfl) ⟨ho4, ho5, ho6⟩ ?_
          exact h
theorem eX2_firstSeat {d : Nat} {o0 : Nat} {x1 : Int32} {w : q_Sm} {Q : s_Po} {X : s_Xo} (h : vX2_firstSeat_0 d o0 x1 w Q X) : s_Ev (d + 1) 0 mX2_firstSeat w [.ref (o0), .int (x1)] Q X := s_of (by decide +kernel) rfl (Nat.le_of_ble_eq_true rfl) (xX2_firstSeat_0 h)
def vX2_loan_0 (d : Nat) (o0 : Nat) (x1 : Int32) (x2 : Int32) (w : q_Sm) (Q : s_Po) (X : s_Xo) : Prop := (q_id 116 2 o0) ∧ (q_id 116 14 (o0 + 15)) ∧ (vp_in ((x1 * 6) + x2) (q_sh (o0 + 15)).2) ∧ Q (some (.int (w.1 (o0 + 15) (Int32.toNatClampNeg ((x1 * 6) + x2))))) w
theorem xX2_loan_0 {d : Nat} {o0 : Nat} {x1 : Int32} {x2 : Int32} {w : q_Sm} {Q : s_Po} {X : s_Xo} (h : vX2_loan_0 d o0 x1 x2 w Q X) : s_Ex (d + 1) 0 mX2_loan 0 [some (.ref (o0)), some (.int (x1)), some (.int (x2))] [] w Q X := by
  unfold vX2_loan_0 at h
  obtain ⟨ho1, h⟩ := h
  obtain ⟨ho2, h⟩ := h
  obtain ⟨ho3, h⟩ := h
  refine s_blk [(.aload_n 0, 1, 0, 0), (.getfield 54, 3, 2, 19), (.iload_n 1, 1, 0, 0), (.bipush 6, 2, 0, 0), (.imul, 1, 0, 0), (.iload_n 2, 1, 0, 0), (.iadd, 1, 0, 0), (.iaload, 1, 0, 0)] 11 [some (.ref (o0)), some (.int (x1)), some (.int (x2))] [.int (w.1 (o0 + 15) (Int32.toNatClampNeg ((x1 * 6) + x2)))] w [q_id 116 2 o0, q_id 116 14 (o0 + 15), vp_in ((x1 * 6) + x2) (q_sh (o0 + 15)).2] (by decide +kernel) (by refine qt_aload_n (r := o0) rfl ?_; refine qt_getR (r := o0 + 15) rfl rfl rfl ?_; refine qt_iload_n (x := x1) rfl ?_; refine qt_bipush qb_6 ?_; refine qt_imul ?_; refine qt_iload_n (x := x2) rfl ?_; refine qt_iadd ?_; refine qt_iald ?_; exact qt_z rfl rfl rfl rfl rfl) ⟨ho1, ho2, ho3⟩ ?_
  exact s_retI .int (by decide +kernel) rfl rfl h
theorem eX2_loan {d : Nat} {o0 : Nat} {x1 : Int32} {x2 : Int32} {w : q_Sm} {Q : s_Po} {X : s_Xo} (h : vX2_loan_0 d o0 x1 x2 w Q X) : s_Ev (d + 1) 0 mX2_loan w [.ref (o0), .int (x1), .int (x2)] Q X := s_of (by decide +kernel) rfl (Nat.le_of_ble_eq_true rfl) (xX2_loan_0 h)
def vX2_netOf_0 (d : Nat) (o0 : Nat) (x1 : Int32) (w : q_Sm) (Q : s_Po) (X : s_Xo) : Prop := s_Ex (d + 1) 0 mX2_netOf 4 [some (.ref (o0)), some (.int (x1)), some (.int (0)), some (.int (0))] [] w Q X
def vX2_netOf_4 (d : Nat) (o0 : Nat) (x1 : Int32) (x2 : Int32) (x3 : Int32) (w : q_Sm) (Q : s_Po) (X : s_Xo) : Prop := (q_id 116 2 o0) ∧ (((w.1 o0 0) ≤ x3) → Q (some (.int (x2))) w) ∧ (¬ ((w.1 o0 0) ≤ x3) → q_id 116 2 o0 ∧ s_EvI d 0 mX2_loan w [.ref (o0), .int (x3), .int (x1)] (fun v1 u2 => q_id 116 2 o0 ∧ s_EvI d 0 mX2_loan u2 [.ref (o0), .int (x1), .int (x3)] (fun v3 u4 => s_Ex (d + 1) 0 mX2_netOf 4 [some (.ref (o0)), some (.int (x1)), some (.int (x2 + (v1 - v3))), some (.int (x3 + 1))] [] u4 Q X) X) X)
theorem xX2_netOf_0 {d : Nat} {o0 : Nat} {x1 : Int32} {w : q_Sm} {Q : s_Po} {X : s_Xo} (h : vX2_netOf_0 d o0 x1 w Q X) : s_Ex (d + 1) 0 mX2_netOf 0 [some (.ref (o0)), some (.int (x1)), none, none] [] w Q X := by
  unfold vX2_netOf_0 at h
  refine s_blk [(.iconst 0, 1, 0, 0), (.istore_n 2, 1, 0, 0), (.iconst 0, 1, 0, 0), (.istore_n 3, 1, 0, 0)] 4 [some (.ref (o0)), some (.int (x1)), some (.int (0)), some (.int (0))] [] w [] (by decide +kernel) (by refine qt_iconst qc_0 ?_; refine qt_istore_n (L' := [some (.ref (o0)), some (.int (x1)), some (.int (0)), none]) rfl ?_; refine qt_iconst qc_0 ?_; refine qt_istore_n (L' := [some (.ref (o0)), some (.int (x1)), some (.int (0)), some (.int (0))]) rfl ?_; exact qt_z rfl rfl rfl rfl rfl) trivial ?_
  exact h
theorem xX2_netOf_4 {d : Nat} {o0 : Nat} {x1 : Int32} {x2 : Int32} {x3 : Int32} {w : q_Sm} {Q : s_Po} {X : s_Xo} (h : vX2_netOf_4 d o0 x1 x2 x3 w Q X) : s_Ex (d + 1) 0 mX2_netOf 4 [some (.ref (o0)), some (.int (x1)), some (.int (x2)), some (.int (x3))] [] w Q X := by
  unfold vX2_netOf_4 at h
  obtain ⟨ho5, h⟩ := h
  refine s_blk [(.iload_n 3, 1, 0, 0), (.aload_n 0, 1, 0, 0), (.getfield 77, 3, 2, 0)] 9 [some (.ref (o0)), some (.int (x1)), some (.int (x2)), some (.int (x3))] [.int (w.1 o0 0), .int (x3)] w [q_id 116 2 o0] (by decide +kernel) (by refine qt_iload_n (x := x3) rfl ?_; refine qt_aload_n (r := o0) rfl ?_; refine qt_getI rfl rfl ?_; exact qt_z rfl rfl rfl rfl rfl) ho5 ?_
  refine s_icmp (cd := .ge) (off := 25) 34 (by decide +kernel) (by decide) (fun hc => ?_) (fun hc => ?_)
  · replace h := h.1 hc
    refine s_blk [(.iload_n 2, 1, 0, 0)] 35 [some (.ref (o0)), some (.int (x1)), some (.int (x2)), some (.int (x3))] [.int (x2)] w [] (by decide +kernel) (by refine qt_iload_n (x := x2) rfl ?_; exact qt_z rfl rfl rfl rfl rfl) trivial ?_
    exact s_retI .int (by decide +kernel) rfl rfl h
  · replace h := h.2 hc
    refine s_blk [(.iload_n 2, 1, 0, 0), (.aload_n 0, 1, 0, 0), (.iload_n 3, 1, 0, 0), (.iload_n 1, 1, 0, 0)] 16 [some (.ref (o0)), some (.int (x1)), some (.int (x2)), some (.int (x3))] [.int (x1), .int (x3), .ref (o0), .int (x2)] w [] (by decide +kernel) (by refine qt_iload_n (x := x2) rfl ?_; refine qt_aload_n (r := o0) rfl ?_; refine qt_iload_n (x := x3) rfl ?_; refine qt_iload_n (x := x1) rfl ?_; exact qt_z rfl rfl rfl rfl rfl) trivial ?_
    obtain ⟨hid, h⟩ := h
    refine s_callV (a := 0) (a' := 0) (As := [.int (x3), .int (x1)]) (id := o0) (st := [.int (x2)]) kX2_loan l_2_173 (by decide +kernel) hid rfl (Nat.le_of_ble_eq_true rfl) (s_mono h (s_I_of (fun v1 u2 h => ?_)) (fun _ _ h9 => h9))
    show s_Ex (d + 1) 0 mX2_netOf 19 [some (.ref (o0)), some (.int (x1)), some (.int (x2)), some (.int (x3))] [.int (v1), .int (x2)] u2 Q X
    refine s_blk [(.aload_n 0, 1, 0, 0), (.iload_n 1, 1, 0, 0), (.iload_n 3, 1, 0, 0)] 22 [some (.ref (o0)), some (.int (x1)), some (.int (x2)), some (.int (x3))] [.int (x3), .int (x1), .ref (o0), .int (v1), .int (x2)] u2 [] (by decide +kernel) (by refine qt_aload_n (r := o0) rfl ?_; refine qt_iload_n (x := x1) rfl ?_; refine qt_iload_n (x := x3) rfl ?_; exact qt_z rfl rfl rfl rfl rfl) trivial ?_
    obtain ⟨hid, h⟩ := h
    refine s_callV (a := 0) (a' := 0) (As := [.int (x1), .int (x3)]) (id := o0) (st := [.int (v1), .int (x2)]) kX2_loan l_2_173 (by decide +kernel) hid rfl (Nat.le_of_ble_eq_true rfl) (s_mono h (s_I_of (fun v3 u4 h => ?_)) (fun _ _ h9 => h9))
    show s_Ex (d + 1) 0 mX2_netOf 25 [some (.ref (o0)), some (.int (x1)), some (.int (x2)), some (.int (x3))] [.int (v3), .int (v1), .int (x2)] u4 Q X
    refine s_blk [(.isub, 1, 0, 0), (.iadd, 1, 0, 0), (.istore_n 2, 1, 0, 0), (.iinc 3 1, 3, 0, 0), (.goto (-27), 3, 4, 0)] 4 [some (.ref (o0)), some (.int (x1)), some (.int (x2 + (v1 - v3))), some (.int (x3 + 1))] [] u4 [] (by decide +kernel) (by refine qt_isub ?_; refine qt_iadd ?_; refine qt_istore_n (L' := [some (.ref (o0)), some (.int (x1)), some (.int (x2 + (v1 - v3))), some (.int (x3))]) rfl ?_; refine qt_iinc (x := x3) (L' := [some (.ref (o0)), some (.int (x1)), some (.int (x2 + (v1 - v3))), some (.int (x3 + 1))]) rfl qc_1 rfl ?_; refine qt_goto ?_; exact qt_z rfl rfl rfl rfl rfl) trivial ?_
    exact h
theorem eX2_netOf {d : Nat} {o0 : Nat} {x1 : Int32} {w : q_Sm} {Q : s_Po} {X : s_Xo} (h : vX2_netOf_0 d o0 x1 w Q X) : s_Ev (d + 1) 0 mX2_netOf w [.ref (o0), .int (x1)] Q X := s_of (by decide +kernel) rfl (Nat.le_of_ble_eq_true rfl) (xX2_netOf_0 h)
def vX2_leastSum_0 (d : Nat) (o0 : Nat) (w : q_Sm) (Q : s_Po) (X : s_Xo) : Prop := s_Ex (d + 1) 0 mX2_leastSum 4 [some (.ref (o0)), some (.int (0)), some (.int (0))] [] w Q X
def vX2_leastSum_4 (d : Nat) (o0 : Nat) (x1 : Int32) (x2 : Int32) (w : q_Sm) (Q : s_Po) (X : s_Xo) : Prop := (q_id 116 2 o0) ∧ (((w.1 o0 0) ≤ x2) → Q (some (.int (x1))) w) ∧ (¬ ((w.1 o0 0) ≤ x2) → q_id 116 2 o0 ∧ s_EvI d 0 mX2_netOf w [.ref (o0), .int (x2)] (fun v1 u2 => s_EvI d 0 mK_max u2 [.int (0), .int (v1)] (fun v3 u4 => s_Ex (d + 1) 0 mX2_leastSum 4 [some (.ref (o0)), some (.int (x1 + v3)), some (.int (x2 + 1))] [] u4 Q X) X) X)
theorem xX2_leastSum_0 {d : Nat} {o0 : Nat} {w : q_Sm} {Q : s_Po} {X : s_Xo} (h : vX2_leastSum_0 d o0 w Q X) : s_Ex (d + 1) 0 mX2_leastSum 0 [some (.ref (o0)), none, none] [] w Q X := by
  unfold vX2_leastSum_0 at h
  refine s_blk [(.iconst 0, 1, 0, 0), (.istore_n 1, 1, 0, 0), (.iconst 0, 1, 0, 0), (.istore_n 2, 1, 0, 0)] 4 [some (.ref (o0)), some (.int (0)), some (.int (0))] [] w [] (by decide +kernel) (by refine qt_iconst qc_0 ?_; refine qt_istore_n (L' := [some (.ref (o0)), some (.int (0)), none]) rfl ?_; refine qt_iconst qc_0 ?_; refine qt_istore_n (L' := [some (.ref (o0)), some (.int (0)), some (.int (0))]) rfl ?_; exact qt_z rfl rfl rfl rfl rfl) trivial ?_
  exact h
theorem xX2_leastSum_4 {d : Nat} {o0 : Nat} {x1 : Int32} {x2 : Int32} {w : q_Sm} {Q : s_Po} {X : s_Xo} (h : vX2_leastSum_4 d o0 x1 x2 w Q X) : s_Ex (d + 1) 0 mX2_leastSum 4 [some (.ref (o0)), some (.int (x1)), some (.int (x2))] [] w Q X := by
  unfold vX2_leastSum_4 at h
  obtain ⟨ho5, h⟩ := h
  refine s_blk [(.iload_n 2, 1, 0, 0), (.aload_n 0, 1, 0, 0), (.getfield 77, 3, 2, 0)] 9 [some (.ref (o0)), some (.int (x1)), some (.int (x2))] [.int (w.1 o0 0), .int (x2)] w [q_id 116 2 o0] (by decide +kernel) (by refine qt_iload_n (x := x2) rfl ?_; refine qt_aload_n (r := o0) rfl ?_; refine qt_getI rfl rfl ?_; exact qt_z rfl rfl rfl rfl rfl) ho5 ?_
  refine s_icmp (cd := .ge) (off := 21) 30 (by decide +kernel) (by decide) (fun hc => ?_) (fun hc => ?_)
  · replace h := h.1 hc
    refine s_blk [(.iload_n 1, 1, 0, 0)] 31 [some (.ref (o0)), some (.int (x1)), some (.int (x2))] [.int (x1)] w [] (by decide +kernel) (by refine qt_iload_n (x := x1) rfl ?_; exact qt_z rfl rfl rfl rfl rfl) trivial ?_
    exact s_retI .int (by decide +kernel) rfl rfl h
  · replace h := h.2 hc
    refine s_blk [(.iload_n 1, 1, 0, 0), (.iconst 0, 1, 0, 0), (.aload_n 0, 1, 0, 0), (.iload_n 2, 1, 0, 0)] 16 [some (.ref (o0)), some (.int (x1)), some (.int (x2))] [.int (x2), .ref (o0), .int (0), .int (x1)] w [] (by decide +kernel) (by refine qt_iload_n (x := x1) rfl ?_; refine qt_iconst qc_0 ?_; refine qt_aload_n (r := o0) rfl ?_; refine qt_iload_n (x := x2) rfl ?_; exact qt_z rfl rfl rfl rfl rfl) trivial ?_
    obtain ⟨hid, h⟩ := h
    refine s_callV (a := 0) (a' := 0) (As := [.int (x2)]) (id := o0) (st := [.int (0), .int (x1)]) kX2_netOf l_2_176 (by decide +kernel) hid rfl (Nat.le_of_ble_eq_true rfl) (s_mono h (s_I_of (fun v1 u2 h => ?_)) (fun _ _ h9 => h9))
    show s_Ex (d + 1) 0 mX2_leastSum 19 [some (.ref (o0)), some (.int (x1)), some (.int (x2))] [.int (v1), .int (0), .int (x1)] u2 Q X
    refine s_callS (a := 0) (a' := 0) (As := [.int (0), .int (v1)]) (st := [.int (x1)]) kK_max l_2_180 (by decide +kernel) rfl (Nat.le_of_ble_eq_true rfl) (s_mono h (s_I_of (fun v3 u4 h => ?_)) (fun _ _ h9 => h9))
    show s_Ex (d + 1) 0 mX2_leastSum 22 [some (.ref (o0)), some (.int (x1)), some (.int (x2))] [.int (v3), .int (x1)] u4 Q X
    refine s_blk [(.iadd, 1, 0, 0), (.istore_n 1, 1, 0, 0), (.iinc 2 1, 3, 0, 0), (.goto (-23), 3, 4, 0)] 4 [some (.ref (o0)), some (.int (x1 + v3)), some (.int (x2 + 1))] [] u4 [] (by decide +kernel) (by refine qt_iadd ?_; refine qt_istore_n (L' := [some (.ref (o0)), some (.int (x1 + v3)), some (.int (x2))]) rfl ?_; refine qt_iinc (x := x2) (L' := [some (.ref (o0)), some (.int (x1 + v3)), some (.int (x2 + 1))]) rfl qc_1 rfl ?_; refine qt_goto ?_; exact qt_z rfl rfl rfl rfl rfl) trivial ?_
    exact h
theorem eX2_leastSum {d : Nat} {o0 : Nat} {w : q_Sm} {Q : s_Po} {X : s_Xo} (h : vX2_leastSum_0 d o0 w Q X) : s_Ev (d + 1) 0 mX2_leastSum w [.ref (o0)] Q X := s_of (by decide +kernel) rfl (Nat.le_of_ble_eq_true rfl) (xX2_leastSum_0 h)
def vX2_loansInAll_0 (d : Nat) (o0 : Nat) (w : q_Sm) (Q : s_Po) (X : s_Xo) : Prop := s_Ex (d + 1) 0 mX2_loansInAll 4 [some (.ref (o0)), some (.int (0)), some (.int (0))] [] w Q X
def vX2_loansInAll_4 (d : Nat) (o0 : Nat) (x1 : Int32) (x2 : Int32) (w : q_Sm) (Q : s_Po) (X : s_Xo) : Prop := (q_id 116 2 o0) ∧ ((0 < (o0 + 15) ∧ (o0 + 15) ≤ 116) ∧ 13 ≤ (q_sh (o0 + 15)).1 ∧ (q_sh (o0 + 15)).1 < 18) ∧ (((Int32.ofNat (q_sh (o0 + 15)).2) ≤ x2) → Q (some (.int (x1))) w) ∧ (¬ ((Int32.ofNat (q_sh (o0 + 15)).2) ≤ x2) → (q_id 116 2 o0) ∧ (q_id 116 14 (o0 + 15)) ∧ (vp_in x2 (q_sh (o0 + 15)).2) ∧ s_Ex (d + 1) 0 mX2_loansInAll 4 [some (.ref (o0)), some (.int (x1 + (w.1 (o0 + 15) (Int32.toNatClampNeg x2)))), some (.int (x2 + 1))] [] w Q X)
theorem xX2_loansInAll_0 {d : Nat} {o0 : Nat} {w : q_Sm} {Q : s_Po} {X : s_Xo} (h : vX2_loansInAll_0 d o0 w Q X) : s_Ex (d + 1) 0 mX2_loansInAll 0 [some (.ref (o0)), none, none] [] w Q X := by
  unfold vX2_loansInAll_0 at h
  refine s_blk [(.iconst 0, 1, 0, 0), (.istore_n 1, 1, 0, 0), (.iconst 0, 1, 0, 0), (.istore_n 2, 1, 0, 0)] 4 [some (.ref (o0)), some (.int (0)), some (.int (0))] [] w [] (by decide +kernel) (by refine qt_iconst qc_0 ?_; refine qt_istore_n (L' := [some (.ref (o0)), some (.int (0)), none]) rfl ?_; refine qt_iconst qc_0 ?_; refine qt_istore_n (L' := [some (.ref (o0)), some (.int (0)), some (.int (0))]) rfl ?_; exact qt_z rfl rfl rfl rfl rfl) trivial ?_
  exact h
theorem xX2_loansInAll_4 {d : Nat} {o0 : Nat} {x1 : Int32} {x2 : Int32} {w : q_Sm} {Q : s_Po} {X : s_Xo} (h : vX2_loansInAll_4 d o0 x1 x2 w Q X) : s_Ex (d + 1) 0 mX2_loansInAll 4 [some (.ref (o0)), some (.int (x1)), some (.int (x2))] [] w Q X := by
  unfold vX2_loansInAll_4 at h
  obtain ⟨ho4, h⟩ := h
  obtain ⟨ho5, h⟩ := h
  refine s_blk [(.iload_n 2, 1, 0, 0), (.aload_n 0, 1, 0, 0), (.getfield 54, 3, 2, 19), (.arraylength, 1, 0, 0)] 10 [some (.ref (o0)), some (.int (x1)), some (.int (x2))] [.int (Int32.ofNat (q_sh (o0 + 15)).2), .int (x2)] w [q_id 116 2 o0, (0 < (o0 + 15) ∧ (o0 + 15) ≤ 116) ∧ 13 ≤ (q_sh (o0 + 15)).1 ∧ (q_sh (o0 + 15)).1 < 18] (by decide +kernel) (by refine qt_iload_n (x := x2) rfl ?_; refine qt_aload_n (r := o0) rfl ?_; refine qt_getR (r := o0 + 15) rfl rfl rfl ?_; refine qt_len rfl ?_; exact qt_z rfl rfl rfl rfl rfl) ⟨ho4, ho5⟩ ?_
  refine s_icmp (cd := .ge) (off := 18) 28 (by decide +kernel) (by decide) (fun hc => ?_) (fun hc => ?_)
  · replace h := h.1 hc
    refine s_blk [(.iload_n 1, 1, 0, 0)] 29 [some (.ref (o0)), some (.int (x1)), some (.int (x2))] [.int (x1)] w [] (by decide +kernel) (by refine qt_iload_n (x := x1) rfl ?_; exact qt_z rfl rfl rfl rfl rfl) trivial ?_
    exact s_retI .int (by decide +kernel) rfl rfl h
  · replace h := h.2 hc
    obtain ⟨ho1, h⟩ := h
    obtain ⟨ho2, h⟩ := h
    obtain ⟨ho3, h⟩ := h
    refine s_blk [(.iload_n 1, 1, 0, 0), (.aload_n 0, 1, 0, 0), (.getfield 54, 3, 2, 19), (.iload_n 2, 1, 0, 0), (.iaload, 1, 0, 0), (.iadd, 1, 0, 0), (.istore_n 1, 1, 0, 0), (.iinc 2 1, 3, 0, 0), (.goto (-21), 3, 4, 0)] 4 [some (.ref (o0)), some (.int (x1 + (w.1 (o0 + 15) (Int32.toNatClampNeg x2)))), some (.int (x2 + 1))] [] w [q_id 116 2 o0, q_id 116 14 (o0 + 15), vp_in x2 (q_sh (o0 + 15)).2] (by decide +kernel) (by refine qt_iload_n (x := x1) rfl ?_; refine qt_aload_n (r := o0) rfl ?_; refine qt_getR (r := o0 + 15) rfl rfl rfl ?_; refine qt_iload_n (x := x2) rfl ?_; refine qt_iald ?_; refine qt_iadd ?_; refine qt_istore_n (L' := [some (.ref (o0)), some (.int (x1 + (w.1 (o0 + 15) (Int32.toNatClampNeg x2)))), some (.int (x2))]) rfl ?_; refine qt_iinc (x := x2) (L' := [some (.ref (o0)), some (.int (x1 + (w.1 (o0 + 15) (Int32.toNatClampNeg x2)))), some (.int (x2 + 1))]) rfl qc_1 rfl ?_; refine qt_goto ?_; exact qt_z rfl rfl rfl rfl rfl) ⟨ho1, ho2, ho3⟩ ?_
    exact h
theorem eX2_loansInAll {d : Nat} {o0 : Nat} {w : q_Sm} {Q : s_Po} {X : s_Xo} (h : vX2_loansInAll_0 d o0 w Q X) : s_Ev (d + 1) 0 mX2_loansInAll w [.ref (o0)] Q X := s_of (by decide +kernel) rfl (Nat.le_of_ble_eq_true rfl) (xX2_loansInAll_0 h)
def vX5_setPlain_0 (d : Nat) (o0 : Nat) (w : q_Sm) (Q : s_Po) (X : s_Xo) : Prop := (q_id 116 5 o0) ∧ ∀ w_1 : q_Sm, w_1 = q_wI w o0 1 0 → q_id 116 5 o0 ∧ s_EvV d 0 mX5_emit w_1 [.ref (o0), .int (-1)] (fun u3 => q_id 116 5 o0 ∧ s_EvV d 0 mX5_emit u3 [.ref (o0), .int (-2)] (fun u5 => q_id 116 5 o0 ∧ s_EvV d 0 mX5_emit u5 [.ref (o0), .int (-10)] (fun u7 => q_id 116 5 o0 ∧ s_EvV d 0 mX5_emit u7 [.ref (o0), .int (16)] (fun u9 => q_id 116 5 o0 ∧ s_EvV d 0 mX5_emit u9 [.ref (o0), .int (-11)] (fun u11 => Q none u11) X) X) X) X) X
theorem xX5_setPlain_0 {d : Nat} {o0 : Nat} {w : q_Sm} {Q : s_Po} {X : s_Xo} (h : vX5_setPlain_0 d o0 w Q X) : s_Ex (d + 1) 0 mX5_setPlain 0 [some (.ref (o0))] [] w Q X := by
  unfold vX5_setPlain_0 at h
  obtain ⟨ho12, h⟩ := h
  replace h := h _ rfl
  refine s_blk [(.aload_n 0, 1, 0, 0), (.iconst 0, 1, 0, 0), (.putfield 24, 3, 5, 1), (.aload_n 0, 1, 0, 0), (.iconst (-1), 1, 0, 0)] 7 [some (.ref (o0))] [.int (-1), .ref (o0)] (q_wI w o0 1 0) [q_id 116 5 o0] (by decide +kernel) (by refine qt_aload_n (r := o0) rfl ?_; refine qt_iconst qc_0 ?_; refine qt_putI rfl ?_; refine qt_aload_n (r := o0) rfl ?_; refine qt_iconst qc_m1 ?_; exact qt_z rfl rfl rfl rfl rfl) ho12 ?_
  obtain ⟨hid, h⟩ := h
  refine s_callV (a := 0) (a' := 0) (As := [.int (-1)]) (id := o0) (st := []) kX5_emit l_5_28 (by decide +kernel) hid rfl (Nat.le_of_ble_eq_true rfl) (s_mono h (s_V_of (fun u3 h => ?_)) (fun _ _ h9 => h9))
  show s_Ex (d + 1) 0 mX5_setPlain 10 [some (.ref (o0))] [] u3 Q X
  refine s_blk [(.aload_n 0, 1, 0, 0), (.bipush (-2), 2, 0, 0)] 13 [some (.ref (o0))] [.int (-2), .ref (o0)] u3 [] (by decide +kernel) (by refine qt_aload_n (r := o0) rfl ?_; refine qt_bipush qb_m2 ?_; exact qt_z rfl rfl rfl rfl rfl) trivial ?_
  obtain ⟨hid, h⟩ := h
  refine s_callV (a := 0) (a' := 0) (As := [.int (-2)]) (id := o0) (st := []) kX5_emit l_5_28 (by decide +kernel) hid rfl (Nat.le_of_ble_eq_true rfl) (s_mono h (s_V_of (fun u5 h => ?_)) (fun _ _ h9 => h9))
  show s_Ex (d + 1) 0 mX5_setPlain 16 [some (.ref (o0))] [] u5 Q X
  refine s_blk [(.aload_n 0, 1, 0, 0), (.bipush (-10), 2, 0, 0)] 19 [some (.ref (o0))] [.int (-10), .ref (o0)] u5 [] (by decide +kernel) (by refine qt_aload_n (r := o0) rfl ?_; refine qt_bipush qb_m10 ?_; exact qt_z rfl rfl rfl rfl rfl) trivial ?_
  obtain ⟨hid, h⟩ := h
  refine s_callV (a := 0) (a' := 0) (As := [.int (-10)]) (id := o0) (st := []) kX5_emit l_5_28 (by decide +kernel) hid rfl (Nat.le_of_ble_eq_true rfl) (s_mono h (s_V_of (fun u7 h => ?_)) (fun _ _ h9 => h9))
  show s_Ex (d + 1) 0 mX5_setPlain 22 [some (.ref (o0))] [] u7 Q X
  refine s_blk [(.aload_n 0, 1, 0, 0), (.bipush 16, 2, 0, 0)] 25 [some (.ref (o0))] [.int (16), .ref (o0)] u7 [] (by decide +kernel) (by refine qt_aload_n (r := o0) rfl ?_; refine qt_bipush qb_16 ?_; exact qt_z rfl rfl rfl rfl rfl) trivial ?_
  obtain ⟨hid, h⟩ := h
  refine s_callV (a := 0) (a' := 0) (As := [.int (16)]) (id := o0) (st := []) kX5_emit l_5_28 (by decide +kernel) hid rfl (Nat.le_of_ble_eq_true rfl) (s_mono h (s_V_of (fun u9 h => ?_)) (fun _ _ h9 => h9))
  show s_Ex (d + 1) 0 mX5_setPlain 28 [some (.ref (o0))] [] u9 Q X
  refine s_blk [(.aload_n 0, 1, 0, 0), (.bipush (-11), 2, 0, 0)] 31 [some (.ref (o0))] [.int (-11), .ref (o0)] u9 [] (by decide +kernel) (by refine qt_aload_n (r := o0) rfl ?_; refine qt_bipush qb_m11 ?_; exact qt_z rfl rfl rfl rfl rfl) trivial ?_
  obtain ⟨hid, h⟩ := h
  refine s_callV (a := 0) (a' := 0) (As := [.int (-11)]) (id := o0) (st := []) kX5_emit l_5_28 (by decide +kernel) hid rfl (Nat.le_of_ble_eq_true rfl) (s_mono h (s_V_of (fun u11 h => ?_)) (fun _ _ h9 => h9))
  show s_Ex (d + 1) 0 mX5_setPlain 34 [some (.ref (o0))] [] u11 Q X
  exact s_retV (by decide +kernel) rfl h
theorem eX5_setPlain {d : Nat} {o0 : Nat} {w : q_Sm} {Q : s_Po} {X : s_Xo} (h : vX5_setPlain_0 d o0 w Q X) : s_Ev (d + 1) 0 mX5_setPlain w [.ref (o0)] Q X := s_of (by decide +kernel) rfl (Nat.le_of_ble_eq_true rfl) (xX5_setPlain_0 h)
def vX5_read_0 (d : Nat) (o0 : Nat) (w : q_Sm) (Q : s_Po) (X : s_Xo) : Prop := (q_id 116 5 o0) ∧ ∀ w_1 : q_Sm, w_1 = q_wI w o0 1 0 → q_id 116 5 o0 ∧ s_EvV d 0 mX5_readSum w_1 [.ref (o0), .ref (2), .int (0)] (fun u3 => s_EvV d 0 mX10_needEnd u3 [.ref (2)] (fun u5 => Q none u5) X) X
theorem xX5_read_0 {d : Nat} {o0 : Nat} {w : q_Sm} {Q : s_Po} {X : s_Xo} (h : vX5_read_0 d o0 w Q X) : s_Ex (d + 1) 0 mX5_read 0 [some (.ref (o0)), some (.ref (2))] [] w Q X := by
  unfold vX5_read_0 at h
  obtain ⟨ho6, h⟩ := h
  replace h := h _ rfl
  refine s_blk [(.aload_n 0, 1, 0, 0), (.iconst 0, 1, 0, 0), (.putfield 24, 3, 5, 1), (.aload_n 0, 1, 0, 0), (.aload_n 1, 1, 0, 0), (.iconst 0, 1, 0, 0)] 8 [some (.ref (o0)), some (.ref (2))] [.int (0), .ref (2), .ref (o0)] (q_wI w o0 1 0) [q_id 116 5 o0] (by decide +kernel) (by refine qt_aload_n (r := o0) rfl ?_; refine qt_iconst qc_0 ?_; refine qt_putI rfl ?_; refine qt_aload_n (r := o0) rfl ?_; refine qt_aload_n (r := 2) rfl ?_; refine qt_iconst qc_0 ?_; exact qt_z rfl rfl rfl rfl rfl) ho6 ?_
  obtain ⟨hid, h⟩ := h
  refine s_callV (a := 0) (a' := 0) (As := [.ref (2), .int (0)]) (id := o0) (st := []) kX5_readSum l_5_32 (by decide +kernel) hid rfl (Nat.le_of_ble_eq_true rfl) (s_mono h (s_V_of (fun u3 h => ?_)) (fun _ _ h9 => h9))
  show s_Ex (d + 1) 0 mX5_read 11 [some (.ref (o0)), some (.ref (2))] [] u3 Q X
  refine s_blk [(.aload_n 1, 1, 0, 0)] 12 [some (.ref (o0)), some (.ref (2))] [.ref (2)] u3 [] (by decide +kernel) (by refine qt_aload_n (r := 2) rfl ?_; exact qt_z rfl rfl rfl rfl rfl) trivial ?_
  refine s_callV (a := 0) (a' := 0) (As := []) (id := 2) (st := []) kX10_needEnd l_5_36 (by decide +kernel) (q_id_of rfl) rfl (Nat.le_of_ble_eq_true rfl) (s_mono h (s_V_of (fun u5 h => ?_)) (fun _ _ h9 => h9))
  show s_Ex (d + 1) 0 mX5_read 15 [some (.ref (o0)), some (.ref (2))] [] u5 Q X
  exact s_retV (by decide +kernel) rfl h
theorem eX5_read {d : Nat} {o0 : Nat} {w : q_Sm} {Q : s_Po} {X : s_Xo} (h : vX5_read_0 d o0 w Q X) : s_Ev (d + 1) 0 mX5_read w [.ref (o0), .ref (2)] Q X := s_of (by decide +kernel) rfl (Nat.le_of_ble_eq_true rfl) (xX5_read_0 h)
def vX5_readSum_0 (d : Nat) (o0 : Nat) (x2 : Int32) (w : q_Sm) (Q : s_Po) (X : s_Xo) : Prop := q_id 116 5 o0 ∧ s_EvV d 0 mX5_readProduct w [.ref (o0), .ref (2), .int (x2)] (fun u2 => s_Ex (d + 1) 0 mX5_readSum 8 [some (.ref (o0)), some (.ref (2)), some (.int (x2)), some (.int (0))] [] u2 Q X) X
def vX5_readSum_8 (d : Nat) (o0 : Nat) (x2 : Int32) (x3 : Int32) (w : q_Sm) (Q : s_Po) (X : s_Xo) : Prop := ((150 ≤ x3) → Q none w) ∧ (¬ (150 ≤ x3) → s_EvI d 0 mX10_failed w [.ref (2)] (fun v3 u4 => ((¬ v3 = 0) → Q none u4) ∧ (¬ (¬ v3 = 0) → s_EvI d 0 mX10_takes u4 [.ref (2), .int (43)] (fun v5 u6 => ((v5 = 0) → s_EvI d 0 mX10_takes u6 [.ref (2), .int (45)] (fun v7 u8 => ((v7 = 0) → Q none u8) ∧ (¬ (v7 = 0) → q_id 116 5 o0 ∧ s_EvV d 0 mX5_readProduct u8 [.ref (o0), .ref (2), .int (x2)] (fun u10 => q_id 116 5 o0 ∧ s_EvV d 0 mX5_emit u10 [.ref (o0), .int (-9)] (fun u12 => s_Ex (d + 1) 0 mX5_readSum 8 [some (.ref (o0)), some (.ref (2)), some (.int (x2)), some (.int (x3 + 1))] [] u12 Q X) X) X)) X) ∧ (¬ (v5 = 0) → q_id 116 5 o0 ∧ s_EvV d 0 mX5_readProduct u6 [.ref (o0), .ref (2), .int (x2)] (fun u14 => q_id 116 5 o0 ∧ s_EvV d 0 mX5_emit u14 [.ref (o0), .int (-8)] (fun u16 => s_Ex (d + 1) 0 mX5_readSum 8 [some (.ref (o0)), some (.ref (2)), some (.int (x2)), some (.int (x3 + 1))] [] u16 Q X) X) X)) X)) X)
theorem xX5_readSum_0 {d : Nat} {o0 : Nat} {x2 : Int32} {w : q_Sm} {Q : s_Po} {X : s_Xo} (h : vX5_readSum_0 d o0 x2 w Q X) : s_Ex (d + 1) 0 mX5_readSum 0 [some (.ref (o0)), some (.ref (2)), some (.int (x2)), none] [] w Q X := by
  unfold vX5_readSum_0 at h
  refine s_blk [(.aload_n 0, 1, 0, 0), (.aload_n 1, 1, 0, 0), (.iload_n 2, 1, 0, 0)] 3 [some (.ref (o0)), some (.ref (2)), some (.int (x2)), none] [.int (x2), .ref (2), .ref (o0)] w [] (by decide +kernel) (by refine qt_aload_n (r := o0) rfl ?_; refine qt_aload_n (r := 2) rfl ?_; refine qt_iload_n (x := x2) rfl ?_; exact qt_z rfl rfl rfl rfl rfl) trivial ?_
  obtain ⟨hid, h⟩ := h
  refine s_callV (a := 0) (a' := 0) (As := [.ref (2), .int (x2)]) (id := o0) (st := []) kX5_readProduct l_5_41 (by decide +kernel) hid rfl (Nat.le_of_ble_eq_true rfl) (s_mono h (s_V_of (fun u2 h => ?_)) (fun _ _ h9 => h9))
  show s_Ex (d + 1) 0 mX5_readSum 6 [some (.ref (o0)), some (.ref (2)), some (.int (x2)), none] [] u2 Q X
  refine s_blk [(.iconst 0, 1, 0, 0), (.istore_n 3, 1, 0, 0)] 8 [some (.ref (o0)), some (.ref (2)), some (.int (x2)), some (.int (0))] [] u2 [] (by decide +kernel) (by refine qt_iconst qc_0 ?_; refine qt_istore_n (L' := [some (.ref (o0)), some (.ref (2)), some (.int (x2)), some (.int (0))]) rfl ?_; exact qt_z rfl rfl rfl rfl rfl) trivial ?_
  exact h
theorem xX5_readSum_8 {d : Nat} {o0 : Nat} {x2 : Int32} {x3 : Int32} {w : q_Sm} {Q : s_Po} {X : s_Xo} (h : vX5_readSum_8 d o0 x2 x3 w Q X) : s_Ex (d + 1) 0 mX5_readSum 8 [some (.ref (o0)), some (.ref (2)), some (.int (x2)), some (.int (x3))] [] w Q X := by
  unfold vX5_readSum_8 at h
  refine s_blk [(.iload_n 3, 1, 0, 0), (.sipush 150, 3, 0, 0)] 12 [some (.ref (o0)), some (.ref (2)), some (.int (x2)), some (.int (x3))] [.int (150), .int (x3)] w [] (by decide +kernel) (by refine qt_iload_n (x := x3) rfl ?_; refine qt_sipush qs_150 ?_; exact qt_z rfl rfl rfl rfl rfl) trivial ?_
  refine s_icmp (cd := .ge) (off := 65) 77 (by decide +kernel) (by decide) (fun hc => ?_) (fun hc => ?_)
  · replace h := h.1 hc
    exact s_retV (by decide +kernel) rfl h
  · replace h := h.2 hc
    refine s_blk [(.aload_n 1, 1, 0, 0)] 16 [some (.ref (o0)), some (.ref (2)), some (.int (x2)), some (.int (x3))] [.ref (2)] w [] (by decide +kernel) (by refine qt_aload_n (r := 2) rfl ?_; exact qt_z rfl rfl rfl rfl rfl) trivial ?_
    refine s_callV (a := 0) (a' := 0) (As := []) (id := 2) (st := []) kX10_failed l_5_44 (by decide +kernel) (q_id_of rfl) rfl (Nat.le_of_ble_eq_true rfl) (s_mono h (s_I_of (fun v3 u4 h => ?_)) (fun _ _ h9 => h9))
    show s_Ex (d + 1) 0 mX5_readSum 19 [some (.ref (o0)), some (.ref (2)), some (.int (x2)), some (.int (x3))] [.int (v3)] u4 Q X
    refine s_if (cd := .ne) (off := 58) 77 (by decide +kernel) (by decide) (fun hc => ?_) (fun hc => ?_)
    · replace h := h.1 hc
      exact s_retV (by decide +kernel) rfl h
    · replace h := h.2 hc
      refine s_blk [(.aload_n 1, 1, 0, 0), (.bipush 43, 2, 0, 0)] 25 [some (.ref (o0)), some (.ref (2)), some (.int (x2)), some (.int (x3))] [.int (43), .ref (2)] u4 [] (by decide +kernel) (by refine qt_aload_n (r := 2) rfl ?_; refine qt_bipush qb_43 ?_; exact qt_z rfl rfl rfl rfl rfl) trivial ?_
      refine s_callV (a := 0) (a' := 0) (As := [.int (43)]) (id := 2) (st := []) kX10_takes l_5_48 (by decide +kernel) (q_id_of rfl) rfl (Nat.le_of_ble_eq_true rfl) (s_mono h (s_I_of (fun v5 u6 h => ?_)) (fun _ _ h9 => h9))
      show s_Ex (d + 1) 0 mX5_readSum 28 [some (.ref (o0)), some (.ref (2)), some (.int (x2)), some (.int (x3))] [.int (v5)] u6 Q X
      refine s_if (cd := .eq) (off := 18) 46 (by decide +kernel) (by decide) (fun hc => ?_) (fun hc => ?_)
      · replace h := h.1 hc
        refine s_blk [(.aload_n 1, 1, 0, 0), (.bipush 45, 2, 0, 0)] 49 [some (.ref (o0)), some (.ref (2)), some (.int (x2)), some (.int (x3))] [.int (45), .ref (2)] u6 [] (by decide +kernel) (by refine qt_aload_n (r := 2) rfl ?_; refine qt_bipush qb_45 ?_; exact qt_z rfl rfl rfl rfl rfl) trivial ?_
        refine s_callV (a := 0) (a' := 0) (As := [.int (45)]) (id := 2) (st := []) kX10_takes l_5_48 (by decide +kernel) (q_id_of rfl) rfl (Nat.le_of_ble_eq_true rfl) (s_mono h (s_I_of (fun v7 u8 h => ?_)) (fun _ _ h9 => h9))
        show s_Ex (d + 1) 0 mX5_readSum 52 [some (.ref (o0)), some (.ref (2)), some (.int (x2)), some (.int (x3))] [.int (v7)] u8 Q X
        refine s_if (cd := .eq) (off := 18) 70 (by decide +kernel) (by decide) (fun hc => ?_) (fun hc => ?_)
        · replace h := h.1 hc
          exact s_retV (by decide +kernel) rfl h
        · replace h := h.2 hc
          refine s_blk [(.aload_n 0, 1, 0, 0), (.aload_n 1, 1, 0, 0), (.iload_n 2, 1, 0, 0)] 58 [some (.ref (o0)), some (.ref (2)), some (.int (x2)), some (.int (x3))] [.int (x2), .ref (2), .ref (o0)] u8 [] (by decide +kernel) (by refine qt_aload_n (r := o0) rfl ?_; refine qt_aload_n (r := 2) rfl ?_; refine qt_iload_n (x := x2) rfl ?_; exact qt_z rfl rfl rfl rfl rfl) trivial ?_
          obtain ⟨hid, h⟩ := h
          refine s_callV (a := 0) (a' := 0) (As := [.ref (2), .int (x2)]) (id := o0) (st := []) kX5_readProduct l_5_41 (by decide +kernel) hid rfl (Nat.le_of_ble_eq_true rfl) (s_mono h (s_V_of (fun u10 h => ?_)) (fun _ _ h9 => h9))
          show s_Ex (d + 1) 0 mX5_readSum 61 [some (.ref (o0)), some (.ref (2)), some (.int (x2)), some (.int (x3))] [] u10 Q X
          refine s_blk [(.aload_n 0, 1, 0, 0), (.bipush (-9), 2, 0, 0)] 64 [some (.ref (o0)), some (.ref (2)), some (.int (x2)), some (.int (x3))] [.int (-9), .ref (o0)] u10 [] (by decide +kernel) (by refine qt_aload_n (r := o0) rfl ?_; refine qt_bipush qb_m9 ?_; exact qt_z rfl rfl rfl rfl rfl) trivial ?_
          obtain ⟨hid, h⟩ := h
          refine s_callV (a := 0) (a' := 0) (As := [.int (-9)]) (id := o0) (st := []) kX5_emit l_5_28 (by decide +kernel) hid rfl (Nat.le_of_ble_eq_true rfl) (s_mono h (s_V_of (fun u12 h => ?_)) (fun _ _ h9 => h9))
          show s_Ex (d + 1) 0 mX5_readSum 67 [some (.ref (o0)), some (.ref (2)), some (.int (x2)), some (.int (x3))] [] u12 Q X
          refine s_blk [(.goto 4, 3, 71, 0), (.iinc 3 1, 3, 0, 0), (.goto (-66), 3, 8, 0)] 8 [some (.ref (o0)), some (.ref (2)), some (.int (x2)), some (.int (x3 + 1))] [] u12 [] (by decide +kernel) (by refine qt_goto ?_; refine qt_iinc (x := x3) (L' := [some (.ref (o0)), some (.ref (2)), some (.int (x2)), some (.int (x3 + 1))]) rfl qc_1 rfl ?_; refine qt_goto ?_; exact qt_z rfl rfl rfl rfl rfl) trivial ?_
          exact h
      · replace h := h.2 hc
        refine s_blk [(.aload_n 0, 1, 0, 0), (.aload_n 1, 1, 0, 0), (.iload_n 2, 1, 0, 0)] 34 [some (.ref (o0)), some (.ref (2)), some (.int (x2)), some (.int (x3))] [.int (x2), .ref (2), .ref (o0)] u6 [] (by decide +kernel) (by refine qt_aload_n (r := o0) rfl ?_; refine qt_aload_n (r := 2) rfl ?_; refine qt_iload_n (x := x2) rfl ?_; exact qt_z rfl rfl rfl rfl rfl) trivial ?_
        obtain ⟨hid, h⟩ := h
        refine s_callV (a := 0) (a' := 0) (As := [.ref (2), .int (x2)]) (id := o0) (st := []) kX5_readProduct l_5_41 (by decide +kernel) hid rfl (Nat.le_of_ble_eq_true rfl) (s_mono h (s_V_of (fun u14 h => ?_)) (fun _ _ h9 => h9))
        show s_Ex (d + 1) 0 mX5_readSum 37 [some (.ref (o0)), some (.ref (2)), some (.int (x2)), some (.int (x3))] [] u14 Q X
        refine s_blk [(.aload_n 0, 1, 0, 0), (.bipush (-8), 2, 0, 0)] 40 [some (.ref (o0)), some (.ref (2)), some (.int (x2)), some (.int (x3))] [.int (-8), .ref (o0)] u14 [] (by decide +kernel) (by refine qt_aload_n (r := o0) rfl ?_; refine qt_bipush qb_m8 ?_; exact qt_z rfl rfl rfl rfl rfl) trivial ?_
        obtain ⟨hid, h⟩ := h
        refine s_callV (a := 0) (a' := 0) (As := [.int (-8)]) (id := o0) (st := []) kX5_emit l_5_28 (by decide +kernel) hid rfl (Nat.le_of_ble_eq_true rfl) (s_mono h (s_V_of (fun u16 h => ?_)) (fun _ _ h9 => h9))
        show s_Ex (d + 1) 0 mX5_readSum 43 [some (.ref (o0)), some (.ref (2)), some (.int (x2)), some (.int (x3))] [] u16 Q X
        refine s_blk [(.goto 28, 3, 71, 0), (.iinc 3 1, 3, 0, 0), (.goto (-66), 3, 8, 0)] 8 [some (.ref (o0)), some (.ref (2)), some (.int (x2)), some (.int (x3 + 1))] [] u16 [] (by decide +kernel) (by refine qt_goto ?_; refine qt_iinc (x := x3) (L' := [some (.ref (o0)), some (.ref (2)), some (.int (x2)), some (.int (x3 + 1))]) rfl qc_1 rfl ?_; refine qt_goto ?_; exact qt_z rfl rfl rfl rfl rfl) trivial ?_
        exact h
theorem eX5_readSum {d : Nat} {o0 : Nat} {x2 : Int32} {w : q_Sm} {Q : s_Po} {X : s_Xo} (h : vX5_readSum_0 d o0 x2 w Q X) : s_Ev (d + 1) 0 mX5_readSum w [.ref (o0), .ref (2), .int (x2)] Q X := s_of (by decide +kernel) rfl (Nat.le_of_ble_eq_true rfl) (xX5_readSum_0 h)
