set_option maxRecDepth 100000 in
theorem q_cpw : ∀ w ∈ [Cond.native arraycopyName, Cond.static arraycopyName, Cond.initialized "java/lang/System"], w ∈ q_TB := q_inTB [569, 568, 144] (by decide +kernel) (by decide +kernel)
theorem s_copy {d a pc idx : Nat} {M : q_Mt} {L : List (Option Value)} {st : List Value} {w : q_Sm} {Q : s_Po} {X : s_Xo} {sp dp n : Int32} {src dst : Nat} (hl : Cond.methodLink (q_own M.1) idx arraycopyName ∈ q_TB) (hdec : decode M.2.2.1 pc = .ok (.invokestatic idx, 3))
    (i1 : q_id 116 14 src) (i2 : q_id 116 14 dst) (h1 : ¬ sp < 0) (h2 : ¬ dp < 0) (h3 : ¬ n < 0) (h4 : sp.toNatClampNeg + n.toNatClampNeg ≤ (q_sh src).2) (h5 : dp.toNatClampNeg + n.toNatClampNeg ≤ (q_sh dst).2) (hst : (st.map fun v => v.category).sum ≤ 8)
    (k : s_Ex (d + 1) a M (pc + 3) L st (q_cp w src sp.toNatClampNeg dst dp.toNatClampNeg n.toNatClampNeg) Q X) : s_Ex (d + 1) a M pc L (.int n :: .int dp :: .ref dst :: .int sp :: .ref src :: st) w Q X := by
  intro G p l e R s m args below meth c Z C g1 g2 g3 g4 H locs cells slots ls f1 f0 f2 f3 f4 f5
  obtain ⟨hexec, hb, hml, hown, hts, hK, hF, hlt⟩ := id C
  obtain ⟨⟨a1, a2⟩, a3⟩ := i1
  obtain ⟨⟨b1, b2⟩, b3⟩ := i2
  have f1 : q_hd G 116 (q_mm w) H := f1
  have he0 : (q_ws G 116 (q_mm w))[src - 1]? = some (G.2.2.1 + src, .inl (G.2.1 14, (q_sh src).2, .inl (w.1 src))) := by
    rw [q_ws_get a1 a2, q_cell_arr a3 (by omega), q_arr_i (Or.inr (Or.inl rfl))]; rfl
  have he1 : (q_ws G 116 (q_mm w))[dst - 1]? = some (G.2.2.1 + dst, .inl (G.2.1 14, (q_sh dst).2, .inl (w.1 dst))) := by
    rw [q_ws_get b1 b2, q_cell_arr b3 (by omega), q_arr_i (Or.inr (Or.inl rfl))]; rfl
  have hnew : (q_ws G 116 (q_mm w)).set (dst - 1) (G.2.2.1 + dst, .inl (G.2.1 14, (q_sh dst).2, .inl (va_cpy (w.1 src) (w.1 dst) sp.toNatClampNeg dp.toNatClampNeg n.toNatClampNeg))) = q_ws G 116 (q_mm (q_cp w src sp.toNatClampNeg dst dp.toNatClampNeg n.toNatClampNeg)) := by
    refine q_ws_set (G := G) (w := q_mm w) (w' := q_mm (q_cp w src sp.toNatClampNeg dst dp.toNatClampNeg n.toNatClampNeg)) b1 b2 (fun j hj => q_cell_congr (fun k' => by simp [q_mm, q_cp, hj]) (fun _ => rfl) (fun _ _ => rfl)) ?_
    rw [q_cell_arr b3 (by omega), q_arr_i (Or.inr (Or.inl rfl))]
    have e9 : (q_mm (q_cp w src sp.toNatClampNeg dst dp.toNatClampNeg n.toNatClampNeg)).1 dst = va_cpy (w.1 src) (w.1 dst) sp.toNatClampNeg dp.toNatClampNeg n.toNatClampNeg := by
      funext k'
      simp [q_mm, q_cp, va_cpy]
    rw [e9]
  show W p l e R s m args below meth c H locs cells slots Z (F0 m pc ls (.int n :: .int dp :: q_tv G (.ref dst) :: .int sp :: q_tv G (.ref src) :: st.map (q_tv G)))
  rw [q_tv_pos G a1, q_tv_pos G b1]
  have hnf : nativeFrameWords "java/lang/System" "arraycopy" 5 + 11 ≤ 48 := by decide +kernel
  have hloc : ((st.map (q_tv G)).map fun v => v.category).sum + (nativeFrameWords "java/lang/System" "arraycopy" 5 + 11) ≤ R.locals := by
    rw [q_cats]
    omega
  refine va_copyi hexec hb (by rw [hml]; exact f3.1.symm) hown (hts _ hl) (hts _ (q_cpw _ List.mem_cons_self)) (hts _ (q_cpw _ (List.mem_cons_of_mem _ List.mem_cons_self))) (hts _ (q_cpw _ (List.mem_cons_of_mem _ (List.mem_cons_of_mem _ List.mem_cons_self)))) hK.1 f1 (q_D G 116 (q_mm w)) f2 (src - 1) (dst - 1) 1 1 he0 he1 rfl rfl rfl h1 h2 h3 h4 h5 (fun i hi => rfl) (by omega) hloc hdec (fun H1 locs1 hP1 hD1 hS1 => ?_)
  rw [hnew] at hP1
  exact k G p l e R s m args below meth c Z C g1 g2 g3 g4 H1 locs1 cells slots ls hP1 f0 hS1 f3 f4 f5
set_option maxRecDepth 100000 in
theorem l_8_21 : Cond.methodLink (q_own 8) 21 arraycopyName ∈ q_TB := q_inTB [567] (ws := [Cond.methodLink (q_own 8) 21 arraycopyName]) (by decide +kernel) (by decide +kernel) _ List.mem_cons_self
set_option maxRecDepth 100000 in
theorem l_6_37 : Cond.methodLink (q_own 6) 37 arraycopyName ∈ q_TB := q_inTB [582] (ws := [Cond.methodLink (q_own 6) 37 arraycopyName]) (by decide +kernel) (by decide +kernel) _ List.mem_cons_self
set_option maxRecDepth 100000 in
theorem q_atX11_requireg : ∀ w ∈ (vx_at0 "DuskDebts" 440 "java/lang/IllegalArgumentException" ["java/lang/RuntimeException", "java/lang/Exception"]).filter goodWord, w ∈ lw_tbl := by decide +kernel
set_option maxRecDepth 100000 in
theorem q_atX11_requiren : ∀ w ∈ (vx_at0 "DuskDebts" 440 "java/lang/IllegalArgumentException" ["java/lang/RuntimeException", "java/lang/Exception"]).filter (fun w => !goodWord w), w ∈ q_CA.map (fun q => Cond.castable q.1 q.2) ++ q_DE.map (fun q => Cond.declares q) := by decide +kernel
set_option maxRecDepth 100000 in
theorem q_atX11_requireo : ∀ w ∈ Cond.classLink "DuskDebts" 438 "java/lang/IllegalArgumentException" :: Cond.initialized "java/lang/IllegalArgumentException" :: vx_at0 "DuskDebts" 440 "java/lang/IllegalArgumentException" ["java/lang/RuntimeException", "java/lang/Exception"], vx_ot w = true := by decide +kernel
set_option maxRecDepth 100000 in
theorem q_atX11_requirel : ∀ w ∈ [Cond.classLink "DuskDebts" 438 "java/lang/IllegalArgumentException", Cond.initialized "java/lang/IllegalArgumentException"], w ∈ q_TB := q_inTB [724, 135] (by decide +kernel) (by decide +kernel)
set_option maxHeartbeats 4000000 in
set_option maxRecDepth 100000 in
theorem eX11_require {d : Nat} {x1 : Int32} {w : q_Sm} {Q : s_Po} {X : s_Xo} (h1 : ¬ x1 = 0 → Q none w) (h2 : x1 = 0 → X "java/lang/IllegalArgumentException" (q_wI w 1 14 (w.1 1 14 + 1))) : s_Ev (d + 8) 1 mX11_require w [.ref 1, .int x1] Q X := by
  intro l G hl
  refine vx_ofW (cc := cX11_require) (maxL := 2) (ret := none) (by decide) rfl ?_
  intro p e s m args below meth c s₁ B hml hex hv
  obtain ⟨rfl, hP, ht, hK, hF⟩ := hv
  have hts0 := atoms_spec (ws := q_wd mX11_require) B.pre
  have C : q_Cx G p l s m ([Value.ref 1, .int x1].map (q_tv G)).toArray c 11 cX11_require 2 := ⟨B.exec, B.bytes, hml, findClass_of_methodNamed B.named, fun w hw => hts0 w (List.mem_cons_of_mem _ hw), hK, hF, hl⟩
  have hr := B.returns
  have hlocks := B.notSynchronized
  have hx := B.exec
  have hb := B.bytes
  have hent := lv_entry ([Value.ref 1, .int x1].map (q_tv G)) (n := 2) (Nat.le_of_ble_eq_true rfl)
  rw [lg_entry_eq]
  generalize (lg_sl ([Value.ref 1, .int x1].map (q_tv G)) ++ List.replicate (2 - (lg_sl ([Value.ref 1, .int x1].map (q_tv G))).length) Slot.unset).toArray = ls at hent ⊢
  have hlv : q_lv G ls 2 [some (.ref 1), some (.int x1)] := by
    refine ⟨hent.1, hent.2.1, fun i v hi => ?_⟩
    have h9 := hent.2.2 _ (q_ent_mem (G := G) [Value.ref 1, .int x1] 0 i v hi)
    rw [Nat.zero_add] at h9
    exact h9
  have hgo : q_Go G p l e (headSpec (q_wd mX11_require) (q_rm (d + 8) 1 (6 * 1))).room s m ([Value.ref 1, .int x1].map (q_tv G)).toArray below meth c (vx_MQ below (q_Qc G (s_Q Q)) (q_Xc G (s_X X)) ([Value.ref 1, .int x1].map (q_tv G)).toArray s 1 (6 * 1) (q_A G)) 2 116 false 1 6 (0, [some (.ref 1), some (.int x1)], [], q_mm w) := by
    refine q_blk C [(.iload_n 1, 1, 0, 0)] (show q_chk 11 2 cX11_require 0 [(.iload_n 1, 1, 0, 0)] = true by decide +kernel) trivial ?_
    show q_Go _ _ _ _ _ _ _ _ _ _ _ _ _ _ _ _ _ (1, [some (.ref 1), some (.int x1)], [.int x1], q_mm w)
    intro H locs cells slots ls f1 f0 f2 f3 f4 f5
    refine lv_if_ne hx hb (off := 21) (tgt := 22) (show decode cX11_require 1 = .ok (.ifCond .ne 21, 3) by decide +kernel) (show ((1 : Nat) : Int) + 21 = ((22 : Nat) : Int) by decide) (fun hc => ?_) (fun hc => ?_)
    · refine W.widen (k := 1) (n := 6) (by have : cells + 1 ≤ 1 := f4; omega) (by have : slots + 6 ≤ 6 := f5; omega) ?_
      refine vx_ret ?_
      exact W.vret hx hb hr (fun u hu hW => ⟨⟨none, 116, q_mm w, rfl, ⟨rfl, w, rfl, h1 hc⟩, by rw [hu]; exact f1⟩, f2.F hu⟩) f2.2.2 (show decode cX11_require 22 = .ok (.return_, 1) by decide +kernel)
    · have go14 : q_Go G p l e (headSpec (q_wd mX11_require) (q_rm (d + 8) 1 (6 * 1))).room s m ([Value.ref 1, .int x1].map (q_tv G)).toArray below meth c (vx_MQ below (q_Qc G (s_Q Q)) (q_Xc G (s_X X)) ([Value.ref 1, .int x1].map (q_tv G)).toArray s 1 (6 * 1) (q_A G)) 2 116 false 1 6 (14, [some (.ref 1), some (.int x1)], [], q_mm (q_wI w 1 14 (w.1 1 14 + 1))) := by
        intro H locs cells slots ls f1 f0 f2 f3 f4 f5
        have hown : s.vm.findClass "DuskDebts" = some m.cls := C.2.2.2.1
        have c4 : cells + 1 ≤ 1 := f4
        have c5 : slots + 6 ≤ 6 := f5
        show W p l e _ s m _ below meth c H locs cells slots _ (F0 m 14 ls [])
        refine vx_throw0 (A := q_A G) (names := ["java/lang/RuntimeException", "java/lang/Exception"]) (ik := 438) (ic := 440) (cls := "java/lang/IllegalArgumentException") hx hb hl hown (by decide +kernel) (by decide +kernel) (C.2.2.2.2.1 _ (q_atX11_requirel _ List.mem_cons_self)) (C.2.2.2.2.1 _ (q_atX11_requirel _ (List.mem_cons_of_mem _ List.mem_cons_self)))
          (vx_hat (fun w9 h9 => C.2.2.2.2.1 w9 (List.mem_filter.mpr ⟨q_atX11_requireg w9 h9, (List.mem_filter.mp h9).2⟩)) q_atX11_requiren (fun w9 h9 => ?_)) q_atX11_requireo hF.2.2.1 hF.2.2.2.1 f2 (by rw [f3.1, hml]) (show decode cX11_require 14 = .ok (.new 438, 3) by decide +kernel) (show decode cX11_require 17 = .ok (.dup, 1) by decide +kernel) (show decode cX11_require 18 = .ok (.invokespecial 440, 3) by decide +kernel) (show decode cX11_require 21 = .ok (.athrow, 1) by decide +kernel) (fun x9 h9 => (hex x9 h9).elim) (show 2 + 3 < d + 8 by omega) (show 0 + (13 * (2 + 1) + 42) ≤ 64 * (d + 8) by omega) f4 f5 hlocks (fun t9 e1 e2 e3 => ?_) f2.2.2 f4 f5
        · rcases List.mem_append.mp h9 with h9 | h9
          · obtain ⟨q, hq, rfl⟩ := List.mem_map.mp h9
            exact va_Nw.use rfl (hK.2.2.2.2.1 q hq)
          · obtain ⟨q, hq, rfl⟩ := List.mem_map.mp h9
            exact va_Nw.use rfl (hK.2.2.2.2.2.1 q hq)
        · refine ⟨⟨116, q_mm (q_wI w 1 14 (w.1 1 14 + 1)), ⟨rfl, _, rfl, h2 (by simpa using hc)⟩, ?_⟩, Nat.le_trans f2.1 e2, fun q hq hA => ?_⟩
          · exact va_P.kept f1 (fun k q hk => e3 q.1 (vx_lt f1 hk))
          · rw [e3 q (Nat.lt_of_lt_of_le hq f2.1)]
            exact f2.2.1 q hq hA
      refine q_blk (cf := (4, [some (.ref 1), some (.int x1)], [], q_mm w)) C [(.aload_n 0, 1, 0, 0), (.dup, 1, 0, 0), (.getfield 419, 3, 11, 14), (.iconst 1, 1, 0, 0), (.iadd, 1, 0, 0), (.putfield 419, 3, 11, 14)] (show q_chk 11 2 cX11_require 4 [(.aload_n 0, 1, 0, 0), (.dup, 1, 0, 0), (.getfield 419, 3, 11, 14), (.iconst 1, 1, 0, 0), (.iadd, 1, 0, 0), (.putfield 419, 3, 11, 14)] = true by decide +kernel) ⟨q_id_of rfl, q_id_of rfl⟩ go14 H locs cells slots ls f1 f0 f2 f3 f4 f5
  exact hgo s.heap [] 0 0 ls hP (fun h9 => by cases h9) va_S.rf hlv (Nat.le_refl _) (Nat.le_refl _)
set_option maxRecDepth 100000 in
theorem q_atX11_requireSuchg : ∀ w ∈ (vx_at0 "DuskDebts" 446 "java/util/NoSuchElementException" ["java/lang/RuntimeException", "java/lang/Exception"]).filter goodWord, w ∈ lw_tbl := by decide +kernel
set_option maxRecDepth 100000 in
theorem q_atX11_requireSuchn : ∀ w ∈ (vx_at0 "DuskDebts" 446 "java/util/NoSuchElementException" ["java/lang/RuntimeException", "java/lang/Exception"]).filter (fun w => !goodWord w), w ∈ q_CA.map (fun q => Cond.castable q.1 q.2) ++ q_DE.map (fun q => Cond.declares q) := by decide +kernel
set_option maxRecDepth 100000 in
theorem q_atX11_requireSucho : ∀ w ∈ Cond.classLink "DuskDebts" 444 "java/util/NoSuchElementException" :: Cond.initialized "java/util/NoSuchElementException" :: vx_at0 "DuskDebts" 446 "java/util/NoSuchElementException" ["java/lang/RuntimeException", "java/lang/Exception"], vx_ot w = true := by decide +kernel
set_option maxRecDepth 100000 in
theorem q_atX11_requireSuchl : ∀ w ∈ [Cond.classLink "DuskDebts" 444 "java/util/NoSuchElementException", Cond.initialized "java/util/NoSuchElementException"], w ∈ q_TB := q_inTB [1206, 145] (by decide +kernel) (by decide +kernel)
set_option maxHeartbeats 4000000 in
set_option maxRecDepth 100000 in
theorem eX11_requireSuch {d : Nat} {x1 : Int32} {w : q_Sm} {Q : s_Po} {X : s_Xo} (h1 : ¬ x1 = 0 → Q none w) (h2 : x1 = 0 → X "java/util/NoSuchElementException" (q_wI w 1 13 (w.1 1 13 + 1))) : s_Ev (d + 8) 1 mX11_requireSuch w [.ref 1, .int x1] Q X := by
  intro l G hl
  refine vx_ofW (cc := cX11_requireSuch) (maxL := 2) (ret := none) (by decide) rfl ?_
  intro p e s m args below meth c s₁ B hml hex hv
  obtain ⟨rfl, hP, ht, hK, hF⟩ := hv
  have hts0 := atoms_spec (ws := q_wd mX11_requireSuch) B.pre
  have C : q_Cx G p l s m ([Value.ref 1, .int x1].map (q_tv G)).toArray c 11 cX11_requireSuch 2 := ⟨B.exec, B.bytes, hml, findClass_of_methodNamed B.named, fun w hw => hts0 w (List.mem_cons_of_mem _ hw), hK, hF, hl⟩
  have hr := B.returns
  have hlocks := B.notSynchronized
  have hx := B.exec
  have hb := B.bytes
  have hent := lv_entry ([Value.ref 1, .int x1].map (q_tv G)) (n := 2) (Nat.le_of_ble_eq_true rfl)
  rw [lg_entry_eq]
  generalize (lg_sl ([Value.ref 1, .int x1].map (q_tv G)) ++ List.replicate (2 - (lg_sl ([Value.ref 1, .int x1].map (q_tv G))).length) Slot.unset).toArray = ls at hent ⊢
  have hlv : q_lv G ls 2 [some (.ref 1), some (.int x1)] := by
    refine ⟨hent.1, hent.2.1, fun i v hi => ?_⟩
    have h9 := hent.2.2 _ (q_ent_mem (G := G) [Value.ref 1, .int x1] 0 i v hi)
    rw [Nat.zero_add] at h9
    exact h9
  have hgo : q_Go G p l e (headSpec (q_wd mX11_requireSuch) (q_rm (d + 8) 1 (6 * 1))).room s m ([Value.ref 1, .int x1].map (q_tv G)).toArray below meth c (vx_MQ below (q_Qc G (s_Q Q)) (q_Xc G (s_X X)) ([Value.ref 1, .int x1].map (q_tv G)).toArray s 1 (6 * 1) (q_A G)) 2 116 false 1 6 (0, [some (.ref 1), some (.int x1)], [], q_mm w) := by
    refine q_blk C [(.iload_n 1, 1, 0, 0)] (show q_chk 11 2 cX11_requireSuch 0 [(.iload_n 1, 1, 0, 0)] = true by decide +kernel) trivial ?_
    show q_Go _ _ _ _ _ _ _ _ _ _ _ _ _ _ _ _ _ (1, [some (.ref 1), some (.int x1)], [.int x1], q_mm w)
    intro H locs cells slots ls f1 f0 f2 f3 f4 f5
    refine lv_if_ne hx hb (off := 21) (tgt := 22) (show decode cX11_requireSuch 1 = .ok (.ifCond .ne 21, 3) by decide +kernel) (show ((1 : Nat) : Int) + 21 = ((22 : Nat) : Int) by decide) (fun hc => ?_) (fun hc => ?_)
    · refine W.widen (k := 1) (n := 6) (by have : cells + 1 ≤ 1 := f4; omega) (by have : slots + 6 ≤ 6 := f5; omega) ?_
      refine vx_ret ?_
      exact W.vret hx hb hr (fun u hu hW => ⟨⟨none, 116, q_mm w, rfl, ⟨rfl, w, rfl, h1 hc⟩, by rw [hu]; exact f1⟩, f2.F hu⟩) f2.2.2 (show decode cX11_requireSuch 22 = .ok (.return_, 1) by decide +kernel)
    · have go14 : q_Go G p l e (headSpec (q_wd mX11_requireSuch) (q_rm (d + 8) 1 (6 * 1))).room s m ([Value.ref 1, .int x1].map (q_tv G)).toArray below meth c (vx_MQ below (q_Qc G (s_Q Q)) (q_Xc G (s_X X)) ([Value.ref 1, .int x1].map (q_tv G)).toArray s 1 (6 * 1) (q_A G)) 2 116 false 1 6 (14, [some (.ref 1), some (.int x1)], [], q_mm (q_wI w 1 13 (w.1 1 13 + 1))) := by
        intro H locs cells slots ls f1 f0 f2 f3 f4 f5
        have hown : s.vm.findClass "DuskDebts" = some m.cls := C.2.2.2.1
        have c4 : cells + 1 ≤ 1 := f4
        have c5 : slots + 6 ≤ 6 := f5
        show W p l e _ s m _ below meth c H locs cells slots _ (F0 m 14 ls [])
        refine vx_throw0 (A := q_A G) (names := ["java/lang/RuntimeException", "java/lang/Exception"]) (ik := 444) (ic := 446) (cls := "java/util/NoSuchElementException") hx hb hl hown (by decide +kernel) (by decide +kernel) (C.2.2.2.2.1 _ (q_atX11_requireSuchl _ List.mem_cons_self)) (C.2.2.2.2.1 _ (q_atX11_requireSuchl _ (List.mem_cons_of_mem _ List.mem_cons_self)))
          (vx_hat (fun w9 h9 => C.2.2.2.2.1 w9 (List.mem_filter.mpr ⟨q_atX11_requireSuchg w9 h9, (List.mem_filter.mp h9).2⟩)) q_atX11_requireSuchn (fun w9 h9 => ?_)) q_atX11_requireSucho hF.2.2.1 hF.2.2.2.1 f2 (by rw [f3.1, hml]) (show decode cX11_requireSuch 14 = .ok (.new 444, 3) by decide +kernel) (show decode cX11_requireSuch 17 = .ok (.dup, 1) by decide +kernel) (show decode cX11_requireSuch 18 = .ok (.invokespecial 446, 3) by decide +kernel) (show decode cX11_requireSuch 21 = .ok (.athrow, 1) by decide +kernel) (fun x9 h9 => (hex x9 h9).elim) (show 2 + 3 < d + 8 by omega) (show 0 + (13 * (2 + 1) + 42) ≤ 64 * (d + 8) by omega) f4 f5 hlocks (fun t9 e1 e2 e3 => ?_) f2.2.2 f4 f5
        · rcases List.mem_append.mp h9 with h9 | h9
          · obtain ⟨q, hq, rfl⟩ := List.mem_map.mp h9
            exact va_Nw.use rfl (hK.2.2.2.2.1 q hq)
          · obtain ⟨q, hq, rfl⟩ := List.mem_map.mp h9
            exact va_Nw.use rfl (hK.2.2.2.2.2.1 q hq)
        · refine ⟨⟨116, q_mm (q_wI w 1 13 (w.1 1 13 + 1)), ⟨rfl, _, rfl, h2 (by simpa using hc)⟩, ?_⟩, Nat.le_trans f2.1 e2, fun q hq hA => ?_⟩
          · exact va_P.kept f1 (fun k q hk => e3 q.1 (vx_lt f1 hk))
          · rw [e3 q (Nat.lt_of_lt_of_le hq f2.1)]
            exact f2.2.1 q hq hA
      refine q_blk (cf := (4, [some (.ref 1), some (.int x1)], [], q_mm w)) C [(.aload_n 0, 1, 0, 0), (.dup, 1, 0, 0), (.getfield 416, 3, 11, 13), (.iconst 1, 1, 0, 0), (.iadd, 1, 0, 0), (.putfield 416, 3, 11, 13)] (show q_chk 11 2 cX11_requireSuch 4 [(.aload_n 0, 1, 0, 0), (.dup, 1, 0, 0), (.getfield 416, 3, 11, 13), (.iconst 1, 1, 0, 0), (.iadd, 1, 0, 0), (.putfield 416, 3, 11, 13)] = true by decide +kernel) ⟨q_id_of rfl, q_id_of rfl⟩ go14 H locs cells slots ls f1 f0 f2 f3 f4 f5
  exact hgo s.heap [] 0 0 ls hP (fun h9 => by cases h9) va_S.rf hlv (Nat.le_refl _) (Nat.le_refl _)
