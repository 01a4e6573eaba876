theorem q_in_good {ws : List Cond} (h : ∀ w ∈ ws, w ∈ q_TB) : GoodIn q_TB ws := fun w hw => ⟨h w hw, good_of_word (List.mem_filter.mp (h w hw)).2⟩
/-- what the tables say of a method that is called on a cell of the kind x, with k arguments behind it -/
def q_mokV (M : q_Mt) (x k : Nat) : Prop := x < 13 ∧ M.2.1.cls = q_own x ∧ (∀ w ∈ [Cond.instanceMethod M.2.1, Cond.selects (q_own x) M.2.1 M.2.1, Cond.initialized (q_own x), Cond.code M.2.1 M.2.2.1 M.2.2.2.1 M.2.2.2.2], w ∈ q_TB) ∧
  (M.2.1.cls ≠ "java/lang/invoke/MethodHandle" ∧ M.2.1.cls ≠ "java/lang/invoke/VarHandle" ∧ (parseMethodDescriptor M.2.1.desc).map (fun d => d.parameters.length) = some k) ∧ M.2.2.2.1 + 19 ≤ 64
def q_mokT (M : q_Mt) (k : Nat) : Prop := M.2.1.cls = "java/lang/String" ∧ (∀ w ∈ [Cond.instanceMethod M.2.1, Cond.selects "java/lang/String" M.2.1 M.2.1, Cond.initialized "java/lang/String", Cond.code M.2.1 M.2.2.1 M.2.2.2.1 M.2.2.2.2], w ∈ q_TB) ∧
  (M.2.1.cls ≠ "java/lang/invoke/MethodHandle" ∧ M.2.1.cls ≠ "java/lang/invoke/VarHandle" ∧ (parseMethodDescriptor M.2.1.desc).map (fun d => d.parameters.length) = some k) ∧ M.2.2.2.1 + 19 ≤ 64
def q_mokS (M : q_Mt) (k : Nat) : Prop := (∀ w ∈ [Cond.static M.2.1, Cond.initialized M.2.1.cls, Cond.code M.2.1 M.2.2.1 M.2.2.2.1 M.2.2.2.2], w ∈ q_TB) ∧
  (M.2.1.cls ≠ "java/lang/invoke/MethodHandle" ∧ M.2.1.cls ≠ "java/lang/invoke/VarHandle" ∧ (parseMethodDescriptor M.2.1.desc).map (fun d => d.parameters.length) = some k) ∧ M.2.2.2.1 + 19 ≤ 64
theorem q_cats {G : q_G} (st : List Value) : ((st.map (q_tv G)).map fun v => v.category).sum = (st.map fun v => v.category).sum := by
  induction st with
  | nil => rfl
  | cons v r ih => simp only [List.map_cons, List.sum_cons, ih, q_tv_cat]
theorem q_hd_size {G : q_G} {n : Nat} {w : q_Mem} {H : Heap} (h : q_hd G n w H) (hn : 0 < n) : G.2.2.1 + n < H.size := by
  have h1 := h (n - 1) _ (q_ws_get hn (Nat.le_refl n))
  unfold va_at at h1
  dsimp only at h1
  split at h1
  · exact (Array.getElem?_eq_some_iff.mp h1).1
  · obtain ⟨r, -, cell, hc, -⟩ := h1
    exact (Array.getElem?_eq_some_iff.mp hc).1
theorem q_tight {G : q_G} {p : Program} {l : Launch} {e : Env} {R : Room} {s : State} {m : MethodId} {args : Array Value} {below : List Frame} {meth : Method} {c : Code} {T : State} {locs : List Loc} {cells slots n : Nat} {w : q_Mem} {H : Heap} (h : q_hd G n w H) (hn : 0 < n) (hT : T.heap = H) (X : Stand p l e R s m args below meth c T locs cells slots) (h0 : s.heap.size + cells = G.2.2.1 + n + 1) : H.size = G.2.2.1 + n + 1 := by
  have h1 := q_hd_size h hn
  have h2 : T.heap.size ≤ s.heap.size + cells := X.same.2.2.1
  rw [hT] at h2
  omega
section QCall
variable {d a b d' a' b' n k idx x id pc : Nat} {M M' : q_Mt} {t : Bool} {L : List (Option Value)} {st As : List Value} {w : q_Mem} {Q Q1 : q_Po} {X X1 : q_Xo}
theorem q_Ex_callV (hm : q_mokV M' x k) (hl : Cond.methodLink (q_own M.1) idx M'.2.1 ∈ q_TB) (hdec : decode M.2.2.1 pc = .ok (.invokevirtual idx, 3)) (E : q_Ev d' a' b' M' n t w (.ref id :: As) Q1 X1) (hid : q_id n x id) (hlen : As.length = k) (hst : (st.map fun v => v.category).sum ≤ 8)
    (hd : d' + 1 ≤ d) (ha : a' ≤ a) (hb : b' ≤ b) (ht : t = true → ∀ r n' w', Q1 r n' w' → n' = n + a')
    (kk : ∀ r n' w', Q1 r n' w' → q_Ex d (a - a') (b - b') M n' t (pc + 3, L, r.toList ++ st, w') Q X) (kx : ∀ E n' w', X1 E n' w' → X E n' w') : q_Ex d a b M n t (pc, L, As.reverse ++ .ref id :: st, w) Q X := by
  intro G p l e R s m args below meth c Z C h1 h2 h3 h4 H locs cells slots ls g1 g0 g2 g3 g4 g5 T hT X9
  obtain ⟨hx13, hcls, hws, hy, hnL⟩ := hm
  obtain ⟨⟨i1, i2⟩, i3⟩ := hid
  have Cc := C
  obtain ⟨hexec, hbb, hml, hown, hts, hK, hF, hlt⟩ := C
  have hM := E l G hlt
  have he : (q_ws G n w)[id - 1]? = some (G.2.2.1 + id, .inr (x, (List.range (q_N x)).map (q_fv G w id x))) := by
    rw [q_ws_get i1 i2, q_cell_obj i3 hx13]
  have g1 : q_hd G n w H := g1
  have hsz : t = true → H.size = G.2.2.1 + n + 1 := fun h9 => q_tight g1 (by omega) hT X9 (g0 h9)
  have cw : CallW R s args (q_own M.1) (q_own x) idx M'.2.1 M'.2.2.1 M'.2.2.2.1 M'.2.2.2.2 (q_wd M') (q_rm d' a' b') a' b' k := by
    refine cwV k hts (q_in_good ?_) rfl rfl rfl ⟨hcls, hy⟩ ⟨?_, ?_⟩
    · intro w9 hw9
      unfold wsV at hw9
      rcases List.mem_append.mp hw9 with h9 | h9
      · rcases List.mem_cons.mp h9 with rfl | h9
        · exact hl
        · rcases List.mem_cons.mp h9 with rfl | h9
          · exact hws _ List.mem_cons_self
          · rcases List.mem_cons.mp h9 with rfl | h9
            · exact hws _ (by simp)
            · rcases List.mem_cons.mp h9 with rfl | h9
              · exact hws _ (by simp)
              · cases h9
      · rcases List.mem_cons.mp h9 with rfl | h9
        · exact hws _ (by simp)
        · exact h9
    · show d' + 1 ≤ R.frames
      omega
    · show 8 + (M'.2.2.2.1 + 11) + 64 * d' ≤ R.locals
      omega
  have hp : PreV s H (q_own x) (G.2.2.1 + id) (q_Pc G n t w (.ref id :: As)) (As.map (q_tv G)) := by
    refine ⟨q_Pc_blind, va_recv hK.1 g1 (q_cl hx13) he, fun U hU hW => ⟨?_, ?_, fun h9 => (by rw [hU]; exact hsz h9), q_K.warm hW hK, ?_⟩⟩
    · rw [List.map_cons, q_tv_pos G i1]
    · show q_hd G n w U.heap
      rw [hU]; exact g1
    · rw [hU]; exact q_F.moved hW.alike (q_F.kept hF (fun q hq hA => g2.2.1 q hq hA))
  have hrun := vx_runV (e := e) (below := below) (meth := meth) (locs := locs) (cells := cells) (slots := slots) (g := F0 m pc ls ((As.reverse ++ .ref id :: st).map (q_tv G))) (rest := st.map (q_tv G)) ⟨hexec, hbb, hml, hown, hts⟩ hM cw hp rfl (by rw [List.length_map]; exact hlen) g3.1
    (by show (As.reverse ++ .ref id :: st).map (q_tv G) = _
        rw [List.map_append, List.map_reverse, List.map_cons, q_tv_pos G i1])
    (by show 2 * 0 + _ ≤ 8
        rw [q_cats]; omega) hdec ⟨by omega, by omega⟩
  rcases hrun T hT X9 with ⟨v, st₀, u, T', L9, e0, X', hL, e1, e2, ⟨⟨r, n', w', hr, hQ, hh⟩, hva⟩, hgo⟩ | ⟨q, st₀, u, T', L9, E9, ce, e0, X', hL, e1, e2, ⟨⟨n', w', hX, hh⟩, hva⟩, c1, c2, c3, hgo⟩
  · cases hr
    have hS : va_S (q_A G) s.heap T'.heap (locs ++ L9) := by
      rw [e1]
      refine ⟨Nat.le_trans g2.1 (by rw [← e0]; exact hva.1), fun q hq hA => ?_, fun z hz => ?_⟩
      · rw [hva.2 q (by rw [e0]; exact Nat.lt_of_lt_of_le hq g2.1) hA, e0]
        exact g2.2.1 q hq hA
      · rcases List.mem_append.mp hz with h9 | h9
        · exact g2.2.2 z h9
        · exact hL z h9
    obtain ⟨t2, a1, b1⟩ := kk r n' w' hQ G p l e R s m args below meth c Z Cc h1 h2 h3 h4 T'.heap (locs ++ L9) (cells + a') (slots + b') ls (by rw [e1]; exact hh) (fun h9 => by have := g0 h9; have := ht h9 r n' w' hQ; omega) hS g3 (by omega) (by omega) T' rfl X'
    refine ⟨t2, hgo t2 ?_, b1⟩
    have e9 : (r.toList ++ st).map (q_tv G) = (r.map (q_tv G)).toList ++ st.map (q_tv G) := by
      cases r <;> rfl
    rw [← e9]
    exact a1
  · have hS : va_S (q_A G) s.heap T'.heap (locs ++ L9) := by
      rw [e1]
      refine ⟨Nat.le_trans g2.1 (by rw [← e0]; exact hva.1), fun q hq hA => ?_, fun z hz => ?_⟩
      · rw [hva.2 q (by rw [e0]; exact Nat.lt_of_lt_of_le hq g2.1) hA, e0]
        exact g2.2.1 q hq hA
      · rcases List.mem_append.mp hz with h9 | h9
        · exact g2.2.2 z h9
        · exact hL z h9
    obtain ⟨t2, a1, b1⟩ := h4 E9 n' w' T'.heap (locs ++ L9) (cells + a') (slots + b') ls pc (st.map (q_tv G)) q ce (kx _ _ _ hX) (by rw [e1]; exact hh) hS (by omega) (by omega) (by rw [e1]; exact c1) c2 c3 T' rfl X'
    exact ⟨t2, hgo.trans a1, b1⟩
theorem q_Ex_callT (hm : q_mokT M' k) (hn : 0 < n) (hl : Cond.methodLink (q_own M.1) idx M'.2.1 ∈ q_TB) (hdec : decode M.2.2.1 pc = .ok (.invokevirtual idx, 3)) (E : q_Ev d' a' b' M' n t w (.retAddr id :: As) Q1 X1) (hid : id < 51) (hlen : As.length = k) (hst : (st.map fun v => v.category).sum ≤ 8)
    (hd : d' + 1 ≤ d) (ha : a' ≤ a) (hb : b' ≤ b) (ht : t = true → ∀ r n' w', Q1 r n' w' → n' = n + a')
    (kk : ∀ r n' w', Q1 r n' w' → q_Ex d (a - a') (b - b') M n' t (pc + 3, L, r.toList ++ st, w') Q X) (kx : ∀ E n' w', X1 E n' w' → X E n' w') : q_Ex d a b M n t (pc, L, As.reverse ++ .retAddr id :: st, w) Q X := by
  intro G p l e R s m args below meth c Z C h1 h2 h3 h4 H locs cells slots ls g1 g0 g2 g3 g4 g5 T hT X9
  obtain ⟨hcls, hws, hy, hnL⟩ := hm
  have Cc := C
  obtain ⟨hexec, hbb, hml, hown, hts, hK, hF, hlt⟩ := C
  have hM := E l G hlt
  have g1 : q_hd G n w H := g1
  have hsz : t = true → H.size = G.2.2.1 + n + 1 := fun h9 => q_tight g1 hn hT X9 (g0 h9)
  have cw : CallW R s args (q_own M.1) "java/lang/String" idx M'.2.1 M'.2.2.1 M'.2.2.2.1 M'.2.2.2.2 (q_wd M') (q_rm d' a' b') a' b' k := by
    refine cwV k hts (q_in_good ?_) rfl rfl rfl ⟨hcls, hy⟩ ⟨?_, ?_⟩
    · intro w9 hw9
      unfold wsV at hw9
      rcases List.mem_append.mp hw9 with h9 | h9
      · rcases List.mem_cons.mp h9 with rfl | h9
        · exact hl
        · rcases List.mem_cons.mp h9 with rfl | h9
          · exact hws _ List.mem_cons_self
          · rcases List.mem_cons.mp h9 with rfl | h9
            · exact hws _ (by simp)
            · rcases List.mem_cons.mp h9 with rfl | h9
              · exact hws _ (by simp)
              · cases h9
      · rcases List.mem_cons.mp h9 with rfl | h9
        · exact hws _ (by simp)
        · exact h9
    · show d' + 1 ≤ R.frames
      omega
    · show 8 + (M'.2.2.2.1 + 11) + 64 * d' ≤ R.locals
      omega
  have hp : PreV s H "java/lang/String" (G.2.2.2.1 id) (q_Pc G n t w (.retAddr id :: As)) (As.map (q_tv G)) := by
    refine ⟨q_Pc_blind, (by obtain ⟨cell, z1, z2, z3, -⟩ := (hF.1 id hid).1.kept g2.2.1; exact ⟨cell, z1, z2, z3⟩), fun U hU hW => ⟨?_, ?_, fun h9 => (by rw [hU]; exact hsz h9), q_K.warm hW hK, ?_⟩⟩
    · rw [List.map_cons, q_tv_text G (by omega)]
    · show q_hd G n w U.heap
      rw [hU]; exact g1
    · rw [hU]; exact q_F.moved hW.alike (q_F.kept hF (fun q hq hA => g2.2.1 q hq hA))
  have hrun := vx_runV (e := e) (below := below) (meth := meth) (locs := locs) (cells := cells) (slots := slots) (g := F0 m pc ls ((As.reverse ++ .retAddr id :: st).map (q_tv G))) (rest := st.map (q_tv G)) ⟨hexec, hbb, hml, hown, hts⟩ hM cw hp rfl (by rw [List.length_map]; exact hlen) g3.1
    (by show (As.reverse ++ .retAddr id :: st).map (q_tv G) = _
        rw [List.map_append, List.map_reverse, List.map_cons, q_tv_text G (by omega)])
    (by show 2 * 0 + _ ≤ 8
        rw [q_cats]; omega) hdec ⟨by omega, by omega⟩
  rcases hrun T hT X9 with ⟨v, st₀, u, T', L9, e0, X', hL, e1, e2, ⟨⟨r, n', w', hr, hQ, hh⟩, hva⟩, hgo⟩ | ⟨q, st₀, u, T', L9, E9, ce, e0, X', hL, e1, e2, ⟨⟨n', w', hX, hh⟩, hva⟩, c1, c2, c3, hgo⟩
  · cases hr
    have hS : va_S (q_A G) s.heap T'.heap (locs ++ L9) := by
      rw [e1]
      refine ⟨Nat.le_trans g2.1 (by rw [← e0]; exact hva.1), fun q hq hA => ?_, fun z hz => ?_⟩
      · rw [hva.2 q (by rw [e0]; exact Nat.lt_of_lt_of_le hq g2.1) hA, e0]
        exact g2.2.1 q hq hA
      · rcases List.mem_append.mp hz with h9 | h9
        · exact g2.2.2 z h9
        · exact hL z h9
    obtain ⟨t2, a1, b1⟩ := kk r n' w' hQ G p l e R s m args below meth c Z Cc h1 h2 h3 h4 T'.heap (locs ++ L9) (cells + a') (slots + b') ls (by rw [e1]; exact hh) (fun h9 => by have := g0 h9; have := ht h9 r n' w' hQ; omega) hS g3 (by omega) (by omega) T' rfl X'
    refine ⟨t2, hgo t2 ?_, b1⟩
    have e9 : (r.toList ++ st).map (q_tv G) = (r.map (q_tv G)).toList ++ st.map (q_tv G) := by
      cases r <;> rfl
    rw [← e9]
    exact a1
  · have hS : va_S (q_A G) s.heap T'.heap (locs ++ L9) := by
      rw [e1]
      refine ⟨Nat.le_trans g2.1 (by rw [← e0]; exact hva.1), fun q hq hA => ?_, fun z hz => ?_⟩
      · rw [hva.2 q (by rw [e0]; exact Nat.lt_of_lt_of_le hq g2.1) hA, e0]
        exact g2.2.1 q hq hA
      · rcases List.mem_append.mp hz with h9 | h9
        · exact g2.2.2 z h9
        · exact hL z h9
    obtain ⟨t2, a1, b1⟩ := h4 E9 n' w' T'.heap (locs ++ L9) (cells + a') (slots + b') ls pc (st.map (q_tv G)) q ce (kx _ _ _ hX) (by rw [e1]; exact hh) hS (by omega) (by omega) (by rw [e1]; exact c1) c2 c3 T' rfl X'
    exact ⟨t2, hgo.trans a1, b1⟩
theorem q_Ex_callS (hm : q_mokS M' k) (hn : 0 < n) (hl : Cond.methodLink (q_own M.1) idx M'.2.1 ∈ q_TB) (hdec : decode M.2.2.1 pc = .ok (.invokestatic idx, 3)) (E : q_Ev d' a' b' M' n t w As Q1 X1) (hlen : As.length = k) (hst : (st.map fun v => v.category).sum ≤ 8)
    (hd : d' + 1 ≤ d) (ha : a' ≤ a) (hb : b' ≤ b) (ht : t = true → ∀ r n' w', Q1 r n' w' → n' = n + a')
    (kk : ∀ r n' w', Q1 r n' w' → q_Ex d (a - a') (b - b') M n' t (pc + 3, L, r.toList ++ st, w') Q X) (kx : ∀ E n' w', X1 E n' w' → X E n' w') : q_Ex d a b M n t (pc, L, As.reverse ++ st, w) Q X := by
  intro G p l e R s m args below meth c Z C h1 h2 h3 h4 H locs cells slots ls g1 g0 g2 g3 g4 g5 T hT X9
  obtain ⟨hws, hy, hnL⟩ := hm
  have Cc := C
  obtain ⟨hexec, hbb, hml, hown, hts, hK, hF, hlt⟩ := C
  have hM := E l G hlt
  have g1 : q_hd G n w H := g1
  have hsz : t = true → H.size = G.2.2.1 + n + 1 := fun h9 => q_tight g1 hn hT X9 (g0 h9)
  have cw : CallB R s args (q_own M.1) idx M'.2.1 M'.2.2.1 M'.2.2.2.1 M'.2.2.2.2 (q_wd M') (q_rm d' a' b') a' b' k ∧ (Cond.static M'.2.1).before args s = true := by
    refine ⟨callB_of k hts (q_in_good ?_) rfl rfl rfl (hts _ (hws _ (by simp))) (hts _ hl) hy ⟨?_, ?_⟩, hts _ (hws _ List.mem_cons_self)⟩
    · intro w9 h9
      rcases List.mem_cons.mp h9 with rfl | h9
      · exact hws _ (by simp)
      · exact h9
    · show d' + 1 ≤ R.frames
      omega
    · show 8 + (M'.2.2.2.1 + 11) + 64 * d' ≤ R.locals
      omega
  have hp : PreS s H (q_Pc G n t w As) (As.map (q_tv G)) := by
    refine ⟨q_Pc_blind, fun U hU hW => ⟨rfl, ?_, fun h9 => (by rw [hU]; exact hsz h9), q_K.warm hW hK, ?_⟩⟩
    · show q_hd G n w U.heap
      rw [hU]; exact g1
    · rw [hU]; exact q_F.moved hW.alike (q_F.kept hF (fun q hq hA => g2.2.1 q hq hA))
  have hrun := vx_runS (e := e) (below := below) (meth := meth) (locs := locs) (cells := cells) (slots := slots) (g := F0 m pc ls ((As.reverse ++ st).map (q_tv G))) (rest := st.map (q_tv G)) ⟨hexec, hbb, hml, hown, hts⟩ hM cw hp rfl (by rw [List.length_map]; exact hlen) g3.1
    (by show (As.reverse ++ st).map (q_tv G) = _
        rw [List.map_append, List.map_reverse])
    (by show 2 * 0 + _ ≤ 8
        rw [q_cats]; omega) hdec ⟨by omega, by omega⟩
  rcases hrun T hT X9 with ⟨v, st₀, u, T', L9, e0, X', hL, e1, e2, ⟨⟨r, n', w', hr, hQ, hh⟩, hva⟩, hgo⟩ | ⟨q, st₀, u, T', L9, E9, ce, e0, X', hL, e1, e2, ⟨⟨n', w', hX, hh⟩, hva⟩, c1, c2, c3, hgo⟩
  · cases hr
    have hS : va_S (q_A G) s.heap T'.heap (locs ++ L9) := by
      rw [e1]
      refine ⟨Nat.le_trans g2.1 (by rw [← e0]; exact hva.1), fun q hq hA => ?_, fun z hz => ?_⟩
      · rw [hva.2 q (by rw [e0]; exact Nat.lt_of_lt_of_le hq g2.1) hA, e0]
        exact g2.2.1 q hq hA
      · rcases List.mem_append.mp hz with h9 | h9
        · exact g2.2.2 z h9
        · exact hL z h9
    obtain ⟨t2, a1, b1⟩ := kk r n' w' hQ G p l e R s m args below meth c Z Cc h1 h2 h3 h4 T'.heap (locs ++ L9) (cells + a') (slots + b') ls (by rw [e1]; exact hh) (fun h9 => by have := g0 h9; have := ht h9 r n' w' hQ; omega) hS g3 (by omega) (by omega) T' rfl X'
    refine ⟨t2, hgo t2 ?_, b1⟩
    have e9 : (r.toList ++ st).map (q_tv G) = (r.map (q_tv G)).toList ++ st.map (q_tv G) := by
      cases r <;> rfl
    rw [← e9]
    exact a1
  · have hS : va_S (q_A G) s.heap T'.heap (locs ++ L9) := by
      rw [e1]
      refine ⟨Nat.le_trans g2.1 (by rw [← e0]; exact hva.1), fun q hq hA => ?_, fun z hz => ?_⟩
      · rw [hva.2 q (by rw [e0]; exact Nat.lt_of_lt_of_le hq g2.1) hA, e0]
        exact g2.2.1 q hq hA
      · rcases List.mem_append.mp hz with h9 | h9
        · exact g2.2.2 z h9
        · exact hL z h9
    obtain ⟨t2, a1, b1⟩ := h4 E9 n' w' T'.heap (locs ++ L9) (cells + a') (slots + b') ls pc (st.map (q_tv G)) q ce (kx _ _ _ hX) (by rw [e1]; exact hh) hS (by omega) (by omega) (by rw [e1]; exact c1) c2 c3 T' rfl X'
    exact ⟨t2, hgo.trans a1, b1⟩
end QCall
