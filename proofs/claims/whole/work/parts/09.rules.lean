section QStep3
variable {G : q_G} {p : Program} {l : Launch} {e : Env} {R : Room} {s : State} {m : MethodId} {args : Array Value} {below : List Frame} {meth : Method} {c : Code} {Z : State → Prop} {o nL n : Nat} {cc : ByteArray} {t : Bool} {a b : Nat}
theorem q_aload {i pc : Nat} {len : Nat} {ls : Array Slot} {rest : List Value} {H : Heap} {locs : List Loc} {cells slots : Nat} {v : Value}
    (C : q_Cx G p l s m args c o cc nL) (hd : (∃ k : Fin 4, (k : Nat) = i ∧ len = 1 ∧ decode cc pc = .ok (.aload_n k, 1)) ∨ (len = 2 ∧ decode cc pc = .ok (.aload i, 2))) (hv : q_tv G v = .null ∨ ∃ q, q_tv G v = .ref q) (hl : ls[i]? = some (.val (q_tv G v)))
    (k : W p l e R s m args below meth c H locs cells slots Z (F0 m (pc + len) ls (q_tv G v :: rest))) : W p l e R s m args below meth c H locs cells slots Z (F0 m pc ls rest) := by
  obtain ⟨hexec, hb, -⟩ := C
  rcases hd with ⟨kk, hk, rfl, hd⟩ | ⟨rfl, hd⟩
  · rcases hv with hv | ⟨q, hv⟩
    · rw [hv] at hl k
      exact lv_aload_nN hexec hb hd hk hl k
    · rw [hv] at hl k
      exact lv_aload_n hexec hb hd hk hl k
  · rcases hv with hv | ⟨q, hv⟩
    · rw [hv] at hl k
      exact lv_aloadN hexec hb hd hl k
    · rw [hv] at hl k
      exact lv_aload hexec hb hd hl k
theorem q_astore {i pc : Nat} {len : Nat} {ls : Array Slot} {rest : List Value} {H : Heap} {locs : List Loc} {cells slots : Nat} {x : Nat} {lv : List (Nat × Value)}
    (C : q_Cx G p l s m args c o cc nL) (hd : (∃ k : Fin 4, (k : Nat) = i ∧ len = 1 ∧ decode cc pc = .ok (.astore_n k, 1)) ∨ (len = 2 ∧ decode cc pc = .ok (.astore i, 2))) (hn : i < nL) (h : lv_has ls nL lv)
    (k : ∀ ls' : Array Slot, lv_has ls' nL ((i, q_tv G (.ref x)) :: lv.filter (fun q => !(q.1 == i) && !(q.1 + 1 == i && q.2.category == 2))) → W p l e R s m args below meth c H locs cells slots Z (F0 m (pc + len) ls' rest)) : W p l e R s m args below meth c H locs cells slots Z (F0 m pc ls (q_tv G (.ref x) :: rest)) := by
  obtain ⟨hexec, hb, -⟩ := C
  by_cases hx : x = 0
  · have e1 : q_tv G (.ref x) = .null := by simp [q_tv, hx]
    rw [e1] at k ⊢
    rcases hd with ⟨kk, hk, rfl, hd⟩ | ⟨rfl, hd⟩
    · exact lv_astore_nN hexec hb hd hk h hn rfl k
    · exact lv_astoreN hexec hb hd h hn rfl k
  · have e1 : q_tv G (.ref x) = .ref (G.2.2.1 + x) := by simp [q_tv, hx]
    rw [e1] at k ⊢
    rcases hd with ⟨kk, hk, rfl, hd⟩ | ⟨rfl, hd⟩
    · exact lv_astore_n hexec hb hd hk h hn rfl k
    · exact lv_astore hexec hb hd h hn rfl k
theorem va_ldcSW {pc : Nat} {ls : Array Slot} {rest : List Value} {H : Heap} {locs : List Loc} {cells slots : Nat} (hexec : p.tables.exec = Jvm.exec) (hb : c.code = cc) {own tx : String} {index q : Nat} (hown : s.vm.findClass own = some m.cls) (hZ : vk_R own index tx q s) (hdg : decode cc pc = .ok (.ldc_w index, 3))
    (k : W p l e R s m args below meth c H locs cells slots Z (F0 m (pc + 3) ls (.ref q :: rest))) : W p l e R s m args below meth c H locs cells slots Z (F0 m pc ls rest) := by
  intro T hT X
  obtain ⟨t, a1, b1⟩ := k T hT X
  exact ⟨t, X.ldcStringW hexec hown (text := tx) (a := q) hZ.1 hZ.2 (g := F0 m pc ls rest) rfl (by rw [hb]; exact hdg) t a1, b1⟩
theorem q_two {f : q_Cf → q_Cf × List Prop} {cf : q_Cf} {g : q_Cf → Prop} (h : (∀ H : q_all (f cf).2, (f cf).1.1 = cf.1 + 1 ∧ (g (f cf).1 → g cf))) (hP : q_all (f cf).2) : (f cf).1.1 = cf.1 + 1 ∧ (g (f cf).1 → g cf) := h hP
set_option maxHeartbeats 4000000 in
theorem q_stp_ok (C : q_Cx G p l s m args c o cc nL) {i : q_RI} {cf : q_Cf} (hr : q_res o nL cf.1 i = true) (hd : i.1 = .nop ∨ decode cc cf.1 = .ok (i.1, i.2.1)) (hP : q_all (q_stp n i cf).2) :
    (q_stp n i cf).1.1 = q_nx cf.1 i ∧ (q_Go G p l e R s m args below meth c Z nL n t a b (q_stp n i cf).1 → q_Go G p l e R s m args below meth c Z nL n t a b cf) := by
  obtain ⟨ins, len, x, y⟩ := i
  obtain ⟨hexec, hb, hml, hown, hts, hK, hF, hl⟩ := id C
  by_cases hnop : ins = .nop
  · subst hnop
    obtain ⟨pc, L, st, w⟩ := cf
    refine ⟨rfl, fun k H locs cells slots ls h1 h0 h2 h3 h4 h5 => k H locs cells slots ls h1 h0 h2 ⟨h3.1, h3.2.1, fun j v hj => h3.2.2 j v ?_⟩ h4 h5⟩
    have hj : (L.set x none)[j]? = some (some v) := hj
    rw [List.getElem?_set] at hj
    split at hj
    · split at hj <;> cases hj
    · exact hj
  replace hd : decode cc cf.1 = .ok (ins, len) := hd.resolve_left hnop
  cases ins with
  | goto off =>
    simp only [q_res, Bool.and_eq_true, beq_iff_eq, decide_eq_true_eq] at hr
    obtain ⟨rfl, hr⟩ := hr
    obtain ⟨pc, L, st, w⟩ := cf
    exact ⟨rfl, fun k H locs cells slots ls h1 h0 h2 h3 h4 h5 => lv_goto hexec hb hd hr (k H locs cells slots ls h1 h0 h2 h3 h4 h5)⟩
  | iconst k =>
    simp only [q_res, beq_iff_eq] at hr
    subst hr
    exact q_pu_ok (fun H locs cells slots ls rest h => lv_iconst hexec hb hd rfl h)
  | bipush k =>
    simp only [q_res, beq_iff_eq] at hr
    subst hr
    exact q_pu_ok (fun H locs cells slots ls rest h => lv_bipush hexec hb hd rfl h)
  | sipush k =>
    simp only [q_res, beq_iff_eq] at hr
    subst hr
    exact q_pu_ok (fun H locs cells slots ls rest h => lv_sipush hexec hb hd rfl h)
  | lconst k =>
    simp only [q_res, beq_iff_eq] at hr
    subst hr
    exact q_pu_ok (fun H locs cells slots ls rest h => lv_lconst hexec hb hd rfl h)
  | ldc idx =>
    simp only [q_res, Bool.and_eq_true, beq_iff_eq] at hr
    obtain ⟨rfl, hr⟩ := hr
    by_cases hx : x = 1
    · subst hx
      simp only [if_true, Bool.and_eq_true, decide_eq_true_eq] at hr
      obtain ⟨⟨h1, h2⟩, h3⟩ := hr
      have hq : q_SC[y]? = some (q_SC.getD y ("", 0, "")) := by
        have hlen : q_SC.length = 51 := by decide +kernel
        rw [List.getD_eq_getElem?_getD]
        rw [List.getElem?_eq_getElem (by omega)]
        rfl
      have hv := hK.2.1 y _ hq
      rw [h2, h3] at hv
      exact q_pu_ok (fun H locs cells slots ls rest h => by rw [q_tv_text G (j := y) (by omega)] at h; exact va_ldcS hexec hb hown hv hd h)
    · simp only [if_neg hx] at hr
      have hm := hts _ (q_CW_in _ (List.mem_map_of_mem (f := fun e => Cond.constant (q_own e.1) e.2.1 (q_CN.getD e.2.2 0)) (List.contains_iff_mem.mp hr)))
      have hs : q_stp n (Instr.ldc idx, 2, x, y) cf = q_pu 2 (.int (q_CN.getD y 0)) cf := by
        show (if x = 1 then _ else _) = _
        rw [if_neg hx]
      rw [hs]
      exact q_pu_ok (fun H locs cells slots ls rest h => lv_ldc hexec hb hown hm hd h)
  | ldc_w idx =>
    simp only [q_res, Bool.and_eq_true, beq_iff_eq] at hr
    obtain ⟨rfl, hr⟩ := hr
    by_cases hx : x = 1
    · subst hx
      simp only [if_true, Bool.and_eq_true, decide_eq_true_eq] at hr
      obtain ⟨⟨h1, h2⟩, h3⟩ := hr
      have hq : q_SC[y]? = some (q_SC.getD y ("", 0, "")) := by
        have hlen : q_SC.length = 51 := by decide +kernel
        rw [List.getD_eq_getElem?_getD]
        rw [List.getElem?_eq_getElem (by omega)]
        rfl
      have hv := hK.2.1 y _ hq
      rw [h2, h3] at hv
      exact q_pu_ok (fun H locs cells slots ls rest h => by rw [q_tv_text G (j := y) (by omega)] at h; exact va_ldcSW hexec hb hown hv hd h)
    · simp only [if_neg hx] at hr
      have hm := hts _ (q_CW_in _ (List.mem_map_of_mem (f := fun e => Cond.constant (q_own e.1) e.2.1 (q_CN.getD e.2.2 0)) (List.contains_iff_mem.mp hr)))
      have hs : q_stp n (Instr.ldc_w idx, 3, x, y) cf = q_pu 3 (.int (q_CN.getD y 0)) cf := by
        show (if x = 1 then _ else _) = _
        rw [if_neg hx]
      rw [hs]
      exact q_pu_ok (fun H locs cells slots ls rest h => lv_ldcw hexec hb hown hm hd h)
  | ldc2_w idx =>
    simp only [q_res, Bool.and_eq_true, beq_iff_eq] at hr
    obtain ⟨rfl, hr⟩ := hr
    have hm := hts _ (q_LW_in _ (List.mem_map_of_mem (f := fun e => Cond.constantLong (q_own e.1) e.2.1 (q_CL.getD e.2.2 0)) (List.contains_iff_mem.mp hr)))
    exact q_pu_ok (fun H locs cells slots ls rest h => lv_ldc2 hexec hb hown hm hd h)
  | iload k =>
    simp only [q_res, beq_iff_eq] at hr
    subst hr
    exact q_ld_ok (fun _ h => q_kI_of h) (fun v H locs cells slots ls rest hg hl9 h => by obtain ⟨z, rfl⟩ := hg; exact lv_iload hexec hb hd hl9 h) hP
  | iload_n k =>
    simp only [q_res, beq_iff_eq] at hr
    subst hr
    exact q_ld_ok (fun _ h => q_kI_of h) (fun v H locs cells slots ls rest hg hl9 h => by obtain ⟨z, rfl⟩ := hg; exact lv_iload_n hexec hb hd rfl hl9 h) hP
  | lload k =>
    simp only [q_res, beq_iff_eq] at hr
    subst hr
    exact q_ld_ok (fun _ h => q_kJ_of h) (fun v H locs cells slots ls rest hg hl9 h => by obtain ⟨z, rfl⟩ := hg; exact lv_lload hexec hb hd hl9 h) hP
  | lload_n k =>
    simp only [q_res, beq_iff_eq] at hr
    subst hr
    exact q_ld_ok (fun _ h => q_kJ_of h) (fun v H locs cells slots ls rest hg hl9 h => by obtain ⟨z, rfl⟩ := hg; exact lv_lload_n hexec hb hd rfl hl9 h) hP
  | aload k =>
    simp only [q_res, beq_iff_eq] at hr
    subst hr
    exact q_ld_ok (fun _ h => q_kR_of h) (fun v H locs cells slots ls rest hg hl9 h => q_aload C (Or.inr ⟨rfl, hd⟩) (hg G) hl9 h) hP
  | aload_n k =>
    simp only [q_res, beq_iff_eq] at hr
    subst hr
    exact q_ld_ok (fun _ h => q_kR_of h) (fun v H locs cells slots ls rest hg hl9 h => q_aload C (Or.inl ⟨k, rfl, rfl, hd⟩) (hg G) hl9 h) hP
  | istore k =>
    simp only [q_res, Bool.and_eq_true, beq_iff_eq, decide_eq_true_eq] at hr
    obtain ⟨rfl, hr⟩ := hr
    exact q_sti_ok (fun x H locs cells slots ls rest lv h9 h => lv_istore hexec hb hd h9 hr rfl h) hP
  | istore_n k =>
    simp only [q_res, Bool.and_eq_true, beq_iff_eq, decide_eq_true_eq] at hr
    obtain ⟨rfl, hr⟩ := hr
    exact q_sti_ok (fun x H locs cells slots ls rest lv h9 h => lv_istore_n hexec hb hd rfl h9 hr rfl h) hP
  | lstore k =>
    simp only [q_res, Bool.and_eq_true, beq_iff_eq, decide_eq_true_eq] at hr
    obtain ⟨rfl, hr⟩ := hr
    exact q_stj_ok (fun x H locs cells slots ls rest lv h9 h => lv_lstore hexec hb hd h9 hr rfl h) hP
  | lstore_n k =>
    simp only [q_res, Bool.and_eq_true, beq_iff_eq, decide_eq_true_eq] at hr
    obtain ⟨rfl, hr⟩ := hr
    exact q_stj_ok (fun x H locs cells slots ls rest lv h9 h => lv_lstore_n hexec hb hd rfl h9 hr rfl h) hP
  | astore k =>
    simp only [q_res, Bool.and_eq_true, beq_iff_eq, decide_eq_true_eq] at hr
    obtain ⟨rfl, hr⟩ := hr
    exact q_sta_ok (fun x H locs cells slots ls rest lv h9 h => q_astore C (Or.inr ⟨rfl, hd⟩) hr h9 h) hP
  | astore_n k =>
    simp only [q_res, Bool.and_eq_true, beq_iff_eq, decide_eq_true_eq] at hr
    obtain ⟨rfl, hr⟩ := hr
    exact q_sta_ok (fun x H locs cells slots ls rest lv h9 h => q_astore C (Or.inl ⟨k, rfl, rfl, hd⟩) hr h9 h) hP
  | iinc k d =>
    simp only [q_res, Bool.and_eq_true, beq_iff_eq, decide_eq_true_eq] at hr
    obtain ⟨rfl, hr⟩ := hr
    exact q_inc_ok (fun x H locs cells slots ls rest lv q h9 h8 h => lv_iinc hexec hb hd h9 h8 rfl hr rfl h) hP
  | iadd => simp only [q_res, beq_iff_eq] at hr; subst hr; exact q_ii_ok (fun x y H locs cells slots ls rest h9 h => lv_iadd hexec hb hd h) hP
  | isub => simp only [q_res, beq_iff_eq] at hr; subst hr; exact q_ii_ok (fun x y H locs cells slots ls rest h9 h => lv_isub hexec hb hd h) hP
  | imul => simp only [q_res, beq_iff_eq] at hr; subst hr; exact q_ii_ok (fun x y H locs cells slots ls rest h9 h => lv_imul hexec hb hd h) hP
  | idiv => simp only [q_res, beq_iff_eq] at hr; subst hr; exact q_ii_ok (fun x y H locs cells slots ls rest h9 h => lv_idiv hexec hb hd h9 h) hP
  | irem => simp only [q_res, beq_iff_eq] at hr; subst hr; exact q_ii_ok (fun x y H locs cells slots ls rest h9 h => lv_irem hexec hb hd h9 h) hP
  | iand => simp only [q_res, beq_iff_eq] at hr; subst hr; exact q_ii_ok (fun x y H locs cells slots ls rest h9 h => lv_iand hexec hb hd h) hP
  | ior => simp only [q_res, beq_iff_eq] at hr; subst hr; exact q_ii_ok (fun x y H locs cells slots ls rest h9 h => lv_ior hexec hb hd h) hP
  | ixor => simp only [q_res, beq_iff_eq] at hr; subst hr; exact q_ii_ok (fun x y H locs cells slots ls rest h9 h => lv_ixor hexec hb hd h) hP
  | ishl => simp only [q_res, beq_iff_eq] at hr; subst hr; exact q_ii_ok (fun x y H locs cells slots ls rest h9 h => lv_ishl hexec hb hd h) hP
  | ishr => simp only [q_res, beq_iff_eq] at hr; subst hr; exact q_ii_ok (fun x y H locs cells slots ls rest h9 h => lv_ishr hexec hb hd h) hP
  | iushr => simp only [q_res, beq_iff_eq] at hr; subst hr; exact q_ii_ok (fun x y H locs cells slots ls rest h9 h => lv_iushr hexec hb hd rfl h) hP
  | ladd => simp only [q_res, beq_iff_eq] at hr; subst hr; exact q_jj_ok (fun x y H locs cells slots ls rest h9 h => lv_ladd hexec hb hd h) hP
  | lsub => simp only [q_res, beq_iff_eq] at hr; subst hr; exact q_jj_ok (fun x y H locs cells slots ls rest h9 h => lv_lsub hexec hb hd h) hP
  | lmul => simp only [q_res, beq_iff_eq] at hr; subst hr; exact q_jj_ok (fun x y H locs cells slots ls rest h9 h => lv_lmul hexec hb hd h) hP
  | ldiv => simp only [q_res, beq_iff_eq] at hr; subst hr; exact q_jj_ok (fun x y H locs cells slots ls rest h9 h => lv_ldiv hexec hb hd h9 h) hP
  | lrem => simp only [q_res, beq_iff_eq] at hr; subst hr; exact q_jj_ok (fun x y H locs cells slots ls rest h9 h => lv_lrem hexec hb hd h9 h) hP
  | land => simp only [q_res, beq_iff_eq] at hr; subst hr; exact q_jj_ok (fun x y H locs cells slots ls rest h9 h => lv_land hexec hb hd h) hP
  | lor => simp only [q_res, beq_iff_eq] at hr; subst hr; exact q_jj_ok (fun x y H locs cells slots ls rest h9 h => lv_lor hexec hb hd h) hP
  | lxor => simp only [q_res, beq_iff_eq] at hr; subst hr; exact q_jj_ok (fun x y H locs cells slots ls rest h9 h => lv_lxor hexec hb hd h) hP
  | ineg => simp only [q_res, beq_iff_eq] at hr; subst hr; exact q_i1_ok (fun x H locs cells slots ls rest h => lv_ineg hexec hb hd h) hP
  | i2b => simp only [q_res, beq_iff_eq] at hr; subst hr; exact q_i1_ok (fun x H locs cells slots ls rest h => lv_i2b hexec hb hd rfl h) hP
  | lcmp =>
    simp only [q_res, beq_iff_eq] at hr
    subst hr
    obtain ⟨pc, L, st, w⟩ := cf
    revert hP
    show q_all (q_lcmp (pc, L, st, w)).2 → (q_lcmp (pc, L, st, w)).1.1 = pc + 1 ∧ (q_Go G p l e R s m args below meth c Z nL n t a b (q_lcmp (pc, L, st, w)).1 → q_Go G p l e R s m args below meth c Z nL n t a b (pc, L, st, w))
    unfold q_lcmp
    dsimp only
    split
    · exact fun _ => ⟨rfl, fun k H locs cells slots ls h1 h0 h2 h3 h4 h5 => W.lcmp hexec hb hd (k H locs cells slots ls h1 h0 h2 h3 h4 h5)⟩
    · exact fun h => h.elim
  | lshl =>
    simp only [q_res, beq_iff_eq] at hr
    subst hr
    obtain ⟨pc, L, st, w⟩ := cf
    revert hP
    show q_all (q_lsh (pc, L, st, w)).2 → (q_lsh (pc, L, st, w)).1.1 = pc + 1 ∧ (q_Go G p l e R s m args below meth c Z nL n t a b (q_lsh (pc, L, st, w)).1 → q_Go G p l e R s m args below meth c Z nL n t a b (pc, L, st, w))
    unfold q_lsh
    dsimp only
    split
    · exact fun _ => ⟨rfl, fun k H locs cells slots ls h1 h0 h2 h3 h4 h5 => lv_lshl hexec hb hd rfl (k H locs cells slots ls h1 h0 h2 h3 h4 h5)⟩
    · exact fun h => h.elim
  | i2l =>
    simp only [q_res, beq_iff_eq] at hr
    subst hr
    obtain ⟨pc, L, st, w⟩ := cf
    revert hP
    show q_all (q_i2l (pc, L, st, w)).2 → (q_i2l (pc, L, st, w)).1.1 = pc + 1 ∧ (q_Go G p l e R s m args below meth c Z nL n t a b (q_i2l (pc, L, st, w)).1 → q_Go G p l e R s m args below meth c Z nL n t a b (pc, L, st, w))
    unfold q_i2l
    dsimp only
    split
    · exact fun _ => ⟨rfl, fun k H locs cells slots ls h1 h0 h2 h3 h4 h5 => lv_i2l hexec hb hd rfl (k H locs cells slots ls h1 h0 h2 h3 h4 h5)⟩
    · exact fun h => h.elim
  | l2i =>
    simp only [q_res, beq_iff_eq] at hr
    subst hr
    obtain ⟨pc, L, st, w⟩ := cf
    revert hP
    show q_all (q_l2i (pc, L, st, w)).2 → (q_l2i (pc, L, st, w)).1.1 = pc + 1 ∧ (q_Go G p l e R s m args below meth c Z nL n t a b (q_l2i (pc, L, st, w)).1 → q_Go G p l e R s m args below meth c Z nL n t a b (pc, L, st, w))
    unfold q_l2i
    dsimp only
    split
    · exact fun _ => ⟨rfl, fun k H locs cells slots ls h1 h0 h2 h3 h4 h5 => lv_l2i hexec hb hd rfl (k H locs cells slots ls h1 h0 h2 h3 h4 h5)⟩
    · exact fun h => h.elim
  | dup =>
    simp only [q_res, beq_iff_eq] at hr
    subst hr
    obtain ⟨pc, L, st, w⟩ := cf
    revert hP
    show q_all (q_dup (pc, L, st, w)).2 → (q_dup (pc, L, st, w)).1.1 = pc + 1 ∧ (q_Go G p l e R s m args below meth c Z nL n t a b (q_dup (pc, L, st, w)).1 → q_Go G p l e R s m args below meth c Z nL n t a b (pc, L, st, w))
    unfold q_dup
    dsimp only
    split
    · exact fun _ => ⟨rfl, fun k H locs cells slots ls h1 h0 h2 h3 h4 h5 => lv_dup hexec hb hd rfl (k H locs cells slots ls h1 h0 h2 h3 h4 h5)⟩
    · exact fun _ => ⟨rfl, fun k H locs cells slots ls h1 h0 h2 h3 h4 h5 => lv_dup hexec hb hd (q_tv_cat G (.ref _)) (k H locs cells slots ls h1 h0 h2 h3 h4 h5)⟩
    · exact fun h => h.elim
  | dup2 =>
    simp only [q_res, beq_iff_eq] at hr
    subst hr
    obtain ⟨pc, L, st, w⟩ := cf
    revert hP
    show q_all (q_dup2 (pc, L, st, w)).2 → (q_dup2 (pc, L, st, w)).1.1 = pc + 1 ∧ (q_Go G p l e R s m args below meth c Z nL n t a b (q_dup2 (pc, L, st, w)).1 → q_Go G p l e R s m args below meth c Z nL n t a b (pc, L, st, w))
    unfold q_dup2
    dsimp only
    split
    · exact fun _ => ⟨rfl, fun k H locs cells slots ls h1 h0 h2 h3 h4 h5 => lv_dup2_11 hexec hb hd rfl (q_tv_cat G (.ref _)) (k H locs cells slots ls h1 h0 h2 h3 h4 h5)⟩
    · exact fun h => h.elim
  | pop =>
    simp only [q_res, beq_iff_eq] at hr
    subst hr
    obtain ⟨pc, L, st, w⟩ := cf
    revert hP
    show q_all (q_pop (pc, L, st, w)).2 → (q_pop (pc, L, st, w)).1.1 = pc + 1 ∧ (q_Go G p l e R s m args below meth c Z nL n t a b (q_pop (pc, L, st, w)).1 → q_Go G p l e R s m args below meth c Z nL n t a b (pc, L, st, w))
    unfold q_pop
    dsimp only
    split
    · exact fun _ => ⟨rfl, fun k H locs cells slots ls h1 h0 h2 h3 h4 h5 => lv_pop hexec hb hd rfl (k H locs cells slots ls h1 h0 h2 h3 h4 h5)⟩
    · exact fun h => h.elim
  | getfield idx =>
    by_cases hx : x = 50
    · subst hx
      simp only [q_res, if_true, Bool.and_eq_true, beq_iff_eq, List.contains_iff_mem] at hr
      obtain ⟨rfl, hr⟩ := hr
      exact q_gtx_ok C hr hd hP
    · simp only [q_res, if_neg hx, Bool.and_eq_true, beq_iff_eq, decide_eq_true_eq, Bool.or_eq_true, List.contains_iff_mem] at hr
      obtain ⟨⟨⟨rfl, h1⟩, h2⟩, h3⟩ := hr
      have hs : q_stp n (Instr.getfield idx, 3, x, y) cf = q_get n x y cf := by
        show (if x = 50 then _ else _) = _
        rw [if_neg hx]
      rw [hs] at hP ⊢
      exact q_get_ok C h1 h2 h3 hd hP
  | getstatic idx =>
    by_cases hx : x = 0
    · subst hx
      simp only [q_res, if_true, Bool.and_eq_true, beq_iff_eq, List.contains_iff_mem, q_TG, List.mem_cons, List.mem_nil_iff, or_false, Prod.mk.injEq] at hr
      obtain ⟨rfl, rfl, rfl⟩ := hr
      obtain ⟨pc, L, st, w⟩ := cf
      exact ⟨rfl, fun k H locs cells slots ls h1 h0 h2 h3 h4 h5 => va_gets (own := "java/lang/String") hexec hb hF.2.1 h2 hown (hts _ (q_TG_in _ List.mem_cons_self)) (fun _ h9 => h9) hd (k H locs cells slots ls h1 h0 h2 h3 h4 h5)⟩
    · simp only [q_res, if_neg hx, Bool.and_eq_true, beq_iff_eq, List.contains_iff_mem, q_TH, List.mem_cons, List.mem_nil_iff, or_false, Prod.mk.injEq] at hr
      obtain ⟨rfl, rfl, rfl⟩ := hr
      have hs : q_stp n (Instr.getstatic 1053, 3, x, y) cf = q_pu 3 (.retAddr 2000) cf := by
        show (if x = 0 then _ else _) = _
        rw [if_neg hx]
      rw [hs] at hP ⊢
      obtain ⟨pc, L, st, w⟩ := cf
      exact ⟨rfl, fun k H locs cells slots ls h1 h0 h2 h3 h4 h5 => va_gets (own := "java/lang/String") hexec hb hF.2.2.2.2 h2 hown (hts _ (q_TG_in _ (List.mem_cons_of_mem _ List.mem_cons_self))) (fun _ h9 => h9) hd (k H locs cells slots ls h1 h0 h2 h3 h4 h5)⟩
  | lushr =>
    simp only [q_res, beq_iff_eq] at hr
    subst hr
    obtain ⟨pc, L, st, w⟩ := cf
    revert hP
    show q_all (q_lus (pc, L, st, w)).2 → (q_lus (pc, L, st, w)).1.1 = pc + 1 ∧ (q_Go G p l e R s m args below meth c Z nL n t a b (q_lus (pc, L, st, w)).1 → q_Go G p l e R s m args below meth c Z nL n t a b (pc, L, st, w))
    unfold q_lus
    dsimp only
    split
    · exact fun _ => ⟨rfl, fun k H locs cells slots ls h1 h0 h2 h3 h4 h5 => lv_lushr hexec hb hd rfl (k H locs cells slots ls h1 h0 h2 h3 h4 h5)⟩
    · exact fun h => h.elim
  | i2c => simp only [q_res, beq_iff_eq] at hr; subst hr; exact q_i1_ok (fun x H locs cells slots ls rest h => lv_i2c hexec hb hd rfl h) hP
  | putfield idx =>
    simp only [q_res, Bool.and_eq_true, beq_iff_eq, decide_eq_true_eq, List.contains_iff_mem, Bool.not_eq_true'] at hr
    obtain ⟨⟨⟨⟨⟨rfl, h1⟩, h2⟩, h3⟩, h4⟩, h5⟩ := hr
    exact q_put_ok C h1 h2 h3 h4 h5 hd hP
  | iaload =>
    simp only [q_res, beq_iff_eq] at hr
    subst hr
    exact q_ild_ok C (x := 14) (Or.inr (Or.inl rfl)) rfl hd hP
  | baload =>
    simp only [q_res, Bool.and_eq_true, beq_iff_eq, decide_eq_true_eq, Bool.or_eq_true] at hr
    obtain ⟨rfl, hr⟩ := hr
    have h14 : ¬ x = 14 := by omega
    exact q_ild_ok C (x := x) (by omega) (by rw [if_neg h14]) hd hP
  | iastore =>
    simp only [q_res, beq_iff_eq] at hr
    subst hr
    exact q_ist_ok C (x := 14) (Or.inr (Or.inl rfl)) (fun v => rfl) rfl hd hP
  | bastore =>
    simp only [q_res, Bool.and_eq_true, beq_iff_eq, decide_eq_true_eq, Bool.or_eq_true] at hr
    obtain ⟨rfl, hr⟩ := hr
    have h14 : ¬ x = 14 := by omega
    exact q_ist_ok C (x := x) (by omega) (fun v => by rw [if_neg h14]) (by rw [if_neg h14]) hd hP
  | laload =>
    simp only [q_res, beq_iff_eq] at hr
    subst hr
    exact q_jld_ok C hd hP
  | lastore =>
    simp only [q_res, beq_iff_eq] at hr
    subst hr
    exact q_jst_ok C hd hP
  | aaload =>
    simp only [q_res, beq_iff_eq] at hr
    subst hr
    exact q_rld_ok C hd hP
  | arraylength =>
    simp only [q_res, beq_iff_eq] at hr
    subst hr
    exact q_len_ok C hd hP
  | nop => exact absurd rfl hnop
  | _ => exact (show False from hP).elim
def q_run (n : Nat) : List q_RI → q_Cf → q_Cf × List Prop
  | [], cf => (cf, [])
  | i :: r, cf => ((q_run n r (q_stp n i cf).1).1, (q_stp n i cf).2 ++ (q_run n r (q_stp n i cf).1).2)
def q_chk (o nL : Nat) (cc : ByteArray) : Nat → List q_RI → Bool
  | _, [] => true
  | pc, i :: r => q_res o nL pc i && (decide (i.1 = .nop) || decide (decode cc pc = .ok (i.1, i.2.1))) && q_chk o nL cc (q_nx pc i) r
theorem q_blk (C : q_Cx G p l s m args c o cc nL) (is : List q_RI) {cf : q_Cf} (hr : q_chk o nL cc cf.1 is = true) (hP : q_all (q_run n is cf).2) (k : q_Go G p l e R s m args below meth c Z nL n t a b (q_run n is cf).1) : q_Go G p l e R s m args below meth c Z nL n t a b cf := by
  induction is generalizing cf with
  | nil => exact k
  | cons i r ih =>
    simp only [q_chk, Bool.and_eq_true, Bool.or_eq_true, decide_eq_true_eq] at hr
    obtain ⟨⟨h1, h2⟩, h3⟩ := hr
    obtain ⟨hP1, hP2⟩ := q_all_app hP
    obtain ⟨e1, e2⟩ := q_stp_ok (e := e) (R := R) (below := below) (meth := meth) (Z := Z) (n := n) (t := t) (a := a) (b := b) C h1 h2 hP1
    exact e2 (ih (by rw [e1]; exact h3) hP2 k)
end QStep3
