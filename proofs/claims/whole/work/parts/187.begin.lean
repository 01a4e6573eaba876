abbrev f_Cc : Type := q_G → Program → Launch → Env → Room → State → MethodId → Array Value → List Frame → Method → Code → (State → Prop) → Prop
def f_Ex (Φ : f_Cc) (d a b : Nat) (M : q_Mt) (n : Nat) (t : Bool) (cf : q_Cf) (Q : q_Po) (X : q_Xo) : Prop :=
  ∀ (G : q_G) (p : Program) (l : Launch) (e : Env) (R : Room) (s : State) (m : MethodId) (args : Array Value) (below : List Frame) (meth : Method) (c : Code) (Z : State → Prop), Φ G p l e R s m args below meth c Z →
    q_Cx G p l s m args c M.1 M.2.2.1 M.2.2.2.1 → d ≤ R.frames → 64 * d ≤ R.locals → q_RetOK G p l e R s m args below meth c Z t M.2.2.1 M.2.2.2.2 Q → q_ThrOK G p l e R s m args below meth c Z X →
    q_Go G p l e R s m args below meth c Z M.2.2.2.1 n t a b cf
theorem f_Ex_blk {Φ : f_Cc} {d a b : Nat} {M : q_Mt} {n : Nat} {t : Bool} {cf : q_Cf} {Q : q_Po} {X : q_Xo} (is : List q_RI) (cf' : q_Cf) (ps : List Prop) (hr : q_chk M.1 M.2.2.2.1 M.2.2.1 cf.1 is = true) (he : q_run n is cf = (cf', ps)) (hP : q_all ps) (k : f_Ex Φ d a b M n t cf' Q X) : f_Ex Φ d a b M n t cf Q X := by
  intro G p l e R s m args below meth c Z hΦ C h1 h2 h3 h4
  refine q_blk C is hr (by rw [he]; exact hP) ?_
  rw [he]
  exact k G p l e R s m args below meth c Z hΦ C h1 h2 h3 h4
theorem fg_blk {Φ : f_Cc} {n : Nat} {t : Bool} {d a b pc : Nat} {M : q_Mt} {L : List (Option Value)} {st : List Value} {w : q_Mem} {Q : q_Po} {X : q_Xo} (is : List q_RI) (pc' : Nat) (L' : List (Option Value)) (st' : List Value) (w' : q_Mem) (ps : List Prop) (hr : q_chk M.1 M.2.2.2.1 M.2.2.1 pc is = true) (he : g_tn n is pc L st w [] ((pc', L', st', w'), ps)) (hP : q_all ps) (k : f_Ex Φ d a b M n t (pc', L', st', w') Q X) : f_Ex Φ d a b M n t (pc, L, st, w) Q X := by
  unfold g_tn q_rn at he
  rw [List.nil_append] at he
  exact f_Ex_blk is (pc', L', st', w') ps hr he hP k
theorem f_Ex_newarr {Φ : f_Cc} {d a b pc n N x : Nat} {M : q_Mt} {L : List (Option Value)} {st : List Value} {w : q_Mem} {Q : q_Po} {X : q_Xo} {v : Int32} (hx : x = 13 ∨ x = 14 ∨ x = 15 ∨ x = 16) (hn : 0 < n) (hv : ¬ v < 0) (hN : v.toNatClampNeg = N) (hb : N ≤ 4000) (hsh : q_sh (n + 1) = (x, N)) (hz : (∀ j, w.1 (n + 1) j = 0) ∧ ∀ j, w.2.1 (n + 1) j = 0)
    (hdec : decode M.2.2.1 pc = .ok (.newarray (q_aty x), 2)) (hw : Cond.arrayClass (newarray.typeOf (q_aty x)) ∈ q_TB)
    (k : f_Ex Φ d a b M (n + 1) true (pc + 2, L, .ref (n + 1) :: st, w) Q X) : f_Ex Φ d (a + 1) (b + N) M n true (pc, L, .int v :: st, w) Q X := by
  intro G p l e R s m args below meth c Z hΦ C h1 h2 h3 h4 H locs cells slots ls g1 g0 g2 g3 g4 g5 T hT X9
  obtain ⟨hexec, hbb, hml, hown, hts, hK, hF, hlt⟩ := id C
  have hsz : H.size = G.2.2.1 + n + 1 := q_tight g1 hn hT X9 (g0 rfl)
  have goal : W p l e R s m args below meth c H locs cells slots Z (F0 m pc ls (.int v :: st.map (q_tv G))) := by
    refine va_newaK (g := F0 m pc ls (.int v :: st.map (q_tv G))) (N := N) hexec hbb (hts _ hw) rfl hdec rfl hv hN ?_ (by omega) (by omega) hsz (fun H' cA e1 e2 e3 e4 e5 => ?_)
    · rcases hx with rfl | rfl | rfl | rfl <;> simp only [q_aty, newarray.typeOf, componentBytes] <;> omega
    · have hcA : cA = G.2.1 x := by
        have h9 := hK.2.2.2.2.2.2
        rcases hx with rfl | rfl | rfl | rfl
        · exact Option.some.inj (e5.symm.trans (h9 (13, "[B") (by simp [q_AN])))
        · exact Option.some.inj (e5.symm.trans (h9 (14, "[I") (by simp [q_AN])))
        · exact Option.some.inj (e5.symm.trans (h9 (15, "[J") (by simp [q_AN])))
        · exact Option.some.inj (e5.symm.trans (h9 (16, "[Z") (by simp [q_AN])))
      have hnew : va_at G.1 vwCl (G.2.2.1 + (n + 1), q_cell G w (n + 1)) H' := by
        have hc : q_cell G w (n + 1) = .inl (G.2.1 x, N, q_arr G w (n + 1) x) := by
          rw [q_cell_arr (x := x) (by rw [hsh]) (by omega), hsh]
        rw [hc]
        show H'[G.2.2.1 + (n + 1)]? = some (vp_cell (G.2.1 x) (N, q_arr G w (n + 1) x))
        rw [show G.2.2.1 + (n + 1) = G.2.2.1 + n + 1 by omega, e1, hcA]
        have z1 : w.1 (n + 1) = fun _ => 0 := funext hz.1
        have z2 : w.2.1 (n + 1) = fun _ => 0 := funext hz.2
        rcases hx with rfl | rfl | rfl | rfl
        · rw [q_arr_i (Or.inl rfl), z1]; rfl
        · rw [q_arr_i (Or.inr (Or.inl rfl)), z1]; rfl
        · have : q_arr G w (n + 1) 15 = .inr (.inl (w.2.1 (n + 1))) := rfl
          rw [this, z2]; rfl
        · rw [q_arr_i (Or.inr (Or.inr rfl)), z1]; rfl
      have k2 := k G p l e R s m args below meth c Z hΦ C h1 h2 h3 h4 H' locs (cells + 1) (slots + N) ls (q_hd.push g1 (fun q hq => e3 q (by omega)) hnew) (fun _ => by have := g0 rfl; omega) (q_S_grow g2 hsz (by omega) (fun q hq => e3 q (by omega))) g3 (by omega) (by omega)
      have e9 : q_tv G (.ref (n + 1)) = .ref (G.2.2.1 + n + 1) := by rw [q_tv_pos G (by omega)]; rfl
      have k3 : W p l e R s m args below meth c H' locs (cells + 1) (slots + N) Z (F0 m (pc + 2) ls (q_tv G (.ref (n + 1)) :: st.map (q_tv G))) := k2
      rw [e9] at k3
      exact k3
  exact goal T hT X9

section FCtor
variable {Φ : f_Cc} {d a b d' a' b' n k idx x id pc : Nat} {M M' : q_Mt} {L : List (Option Value)} {st As : List Value} {w : q_Mem} {Q Q1 : q_Po} {X : q_Xo}
theorem f_Ex_new (hx : x < 13) (hn : 0 < n) (hsh : (q_sh (n + 1)).1 = x) (hz : (∀ j, w.1 (n + 1) j = 0) ∧ ∀ y j, w.2.2 y (n + 1) j = 0) (hdec : decode M.2.2.1 pc = .ok (.new idx, 3))
    (hws : ∀ w ∈ [Cond.classLink (q_own M.1) idx (q_own x), Cond.instantiable (q_own x) (q_N x), Cond.initialized (q_own x)], w ∈ q_TB)
    (k9 : f_Ex Φ d a b M (n + 1) true (pc + 3, L, .ref (n + 1) :: st, w) Q X) : f_Ex Φ d (a + 1) (b + q_N x) M n true (pc, L, st, w) Q X := by
  intro G p l e R s m args below meth c Z hΦ C h1 h2 h3 h4 H locs cells slots ls g1 g0 g2 g3 g4 g5 T hT X9
  obtain ⟨hexec, hbb, hml, hown, hts, hK, hF, hlt⟩ := (fun y => y) C
  have hsz : H.size = G.2.2.1 + n + 1 := q_tight g1 hn hT X9 (g0 rfl)
  have hKn := hK.1.1 x _ (q_cl hx)
  have goal : W p l e R s m args below meth c H locs cells slots Z (F0 m pc ls (st.map (q_tv G))) := by
    refine W.newcK (n := q_N x) (g := F0 m pc ls (st.map (q_tv G))) hexec hbb hown (hts _ (hws _ List.mem_cons_self)) (hts _ (hws _ (by simp))) (hts _ (hws _ (by simp))) rfl hdec (by omega) (by omega) hKn.2.1 hsz (fun H' kC hkC e1 z1 o1 => ?_)
    have hnew : va_at G.1 vwCl (G.2.2.1 + (n + 1), q_cell G w (n + 1)) H' := by
      rw [q_cell_obj hsh hx]
      exact ⟨_, q_cl hx, (u_born (q_ty x) hts (q_uw hx) hKn hkC e1 (q_tyok hx)).to (c_born hx hsh hz)⟩
    have k2 := k9 G p l e R s m args below meth c Z hΦ C h1 h2 h3 h4 H' locs (cells + 1) (slots + q_N x) ls (q_hd.push g1 (fun q hq => o1 q (by omega)) hnew) (fun _ => by have := g0 rfl; omega) (q_S_grow g2 hsz (by omega) (fun q hq => o1 q (by omega))) g3 (by omega) (by omega)
    have e9 : q_tv G (.ref (n + 1)) = .ref (G.2.2.1 + n + 1) := by rw [q_tv_pos G (by omega)]; rfl
    have k3 : W p l e R s m args below meth c H' locs (cells + 1) (slots + q_N x) Z (F0 m (pc + 3) ls (q_tv G (.ref (n + 1)) :: st.map (q_tv G))) := k2
    rw [e9] at k3
    exact k3
  exact goal T hT X9
theorem f_Ex_callI {t : Bool} (hm : c_mokI M') (hn : 0 < n) (hl : Cond.methodLink (q_own M.1) idx M'.2.1 ∈ q_TB ∨ (q_own M.1, idx, M'.2.1) ∈ q_NM) (hdec : decode M.2.2.1 pc = .ok (.invokespecial idx, 3)) (E : q_Ev d' a' b' M' n t w [.ref id] Q1 (fun _ _ _ => False)) (hid : 0 < id) (hst : (st.map fun v => v.category).sum ≤ 8)
    (hd : d' + 1 ≤ d) (ha : a' ≤ a) (hb : b' ≤ b) (ht : t = true → ∀ r n' w', Q1 r n' w' → n' = n + a')
    (kk : ∀ r n' w', Q1 r n' w' → f_Ex Φ d (a - a') (b - b') M n' t (pc + 3, L, r.toList ++ st, w') Q X) : f_Ex Φ d a b M n t (pc, L, .ref id :: st, w) Q X := by
  intro G p l e R s m args below meth c Z hΦ C h1 h2 h3 h4 H locs cells slots ls g1 g0 g2 g3 g4 g5 T hT X9
  obtain ⟨hws, hnm, hret, hy, hnL⟩ := hm
  have Cc := C
  obtain ⟨hexec, hbb, hml, hown, hts, hK, hF, hlt⟩ := C
  have hM := c_Met (G := G) E hlt
  have g1 : q_hd G n w H := g1
  have hsz : t = true → H.size = G.2.2.1 + n + 1 := fun h9 => q_tight g1 hn hT X9 (g0 h9)
  have hgood : GoodIn q_TB (q_wd M') := q_in_good (by
    intro w9 h9
    rcases List.mem_cons.mp h9 with rfl | h9
    · exact hws _ (by simp)
    · exact h9)
  have hp : PreS s H (q_Pc G n t w [.ref id]) [.ref (G.2.2.1 + id)] := by
    refine ⟨q_Pc_blind, fun U hU hW => ⟨?_, ?_, fun h9 => (by rw [hU]; exact hsz h9), q_K.warm hW hK, ?_⟩⟩
    · rw [List.map_cons, List.map_nil, q_tv_pos G hid]
    · show q_hd G n w U.heap
      rw [hU]; exact g1
    · rw [hU]; exact q_F.moved hW.alike (q_F.kept hF (fun q hq hA => g2.2.1 q hq hA))
  have hrun : va_Run p l e R s m args below meth c H locs cells slots a' b' (F0 m pc ls (.ref (G.2.2.1 + id) :: st.map (q_tv G))) (st.map (q_tv G)) (q_Qc G Q1 [Value.ref (G.2.2.1 + id)].toArray) (q_A G) := by
    rcases hl with hl | hl
    · refine va_runI (As := []) (n := 0) (index := idx) (bytes := M'.2.2.1) (maxL := M'.2.2.2.1) ⟨hexec, hbb, hml, hown, hts⟩ hM ⟨?_, hnm, hts _ (hws _ List.mem_cons_self)⟩ hp rfl rfl g3.1 rfl (by show 2 * 0 + _ ≤ 8; rw [q_cats]; omega) hdec ⟨by omega, by omega⟩
      exact callB_of 0 hts hgood (by rw [← hret]) rfl rfl (hts _ (hws _ (by simp))) (hts _ hl) hy ⟨by show d' + 1 ≤ R.frames; omega, by show 8 + (M'.2.2.2.1 + 11) + 64 * d' ≤ R.locals; omega⟩
    · refine va_runIN (As := []) (n := 0) (index := idx) (host := "DuskDebts") (bytes := M'.2.2.1) (maxL := M'.2.2.2.1) ⟨hexec, hbb, hml, hown, hts⟩ hM ⟨?_, hnm, hts _ (hws _ List.mem_cons_self)⟩ hp rfl rfl g3.1 rfl (by show 2 * 0 + _ ≤ 8; rw [q_cats]; omega) hdec ⟨by omega, by omega⟩
      exact va_cnB 0 hts hgood (by rw [← hret]) rfl rfl (hK.2.2.2.1 _ hl) (hts _ (hws _ (by simp))) hy ⟨by show d' + 1 ≤ R.frames; omega, by show 8 + (M'.2.2.2.1 + 11) + 64 * d' ≤ R.locals; omega⟩
  have goal : ∃ t2, Steps p.tables e below (T.setTop (F0 m pc ls (.ref (G.2.2.1 + id) :: st.map (q_tv G)))) t2 ∧ Z t2 := by
    obtain ⟨v, st₀, u, T', L9, e0, X', hL, e1, e2, ⟨⟨r, n', w', hr, hQ, hh⟩, hva⟩, hgo⟩ := hrun T hT X9
    cases hr
    have hS : va_S (q_A G) s.heap T'.heap (locs ++ L9) := by
      rw [e1]
      refine ⟨Nat.le_trans g2.1 (by rw [← e0]; exact hva.1), fun q hq hA => ?_, fun z hz => ?_⟩
      · rw [hva.2 q (by rw [e0]; exact Nat.lt_of_lt_of_le hq g2.1) hA, e0]
        exact g2.2.1 q hq hA
      · rcases List.mem_append.mp hz with h9 | h9
        · exact g2.2.2 z h9
        · exact hL z h9
    obtain ⟨t2, a1, b1⟩ := kk r n' w' hQ G p l e R s m args below meth c Z hΦ Cc h1 h2 h3 h4 T'.heap (locs ++ L9) (cells + a') (slots + b') ls (by rw [e1]; exact hh) (fun h9 => by have := g0 h9; have := ht h9 r n' w' hQ; omega) hS g3 (by omega) (by omega) T' rfl X'
    refine ⟨t2, hgo t2 ?_, b1⟩
    have e9 : (r.toList ++ st).map (q_tv G) = (r.map (q_tv G)).toList ++ st.map (q_tv G) := by
      cases r <;> rfl
    rw [← e9]
    exact a1
  have e8 : (.ref id :: st : List Value).map (q_tv G) = .ref (G.2.2.1 + id) :: st.map (q_tv G) := by rw [List.map_cons, q_tv_pos G hid]
  show ∃ t2, Steps p.tables e below (T.setTop (F0 m pc ls ((.ref id :: st : List Value).map (q_tv G)))) t2 ∧ Z t2
  rw [e8]
  exact goal
theorem f_Ex_callA {t : Bool} (hm : c_mokI M') (hn : 0 < n) (hl : Cond.methodLink (q_own M.1) idx M'.2.1 ∈ q_TB ∨ (q_own M.1, idx, M'.2.1) ∈ q_NM) (hdec : decode M.2.2.1 pc = .ok (.invokespecial idx, 3)) (hΨ : ∀ G p l e R s m args below meth c Z, Φ G p l e R s m args below meth c Z → va_AO "DuskDebts$Past" s) (E : c_EvA d' a' b' M' n t w [.ref id] Q1) (hid : 0 < id) (hst : (st.map fun v => v.category).sum ≤ 8)
    (hd : d' + 1 ≤ d) (ha : a' ≤ a) (hb : b' ≤ b) (ht : t = true → ∀ r n' w', Q1 r n' w' → n' = n + a')
    (kk : ∀ r n' w', Q1 r n' w' → f_Ex Φ d (a - a') (b - b') M n' t (pc + 3, L, r.toList ++ st, w') Q X) : f_Ex Φ d a b M n t (pc, L, .ref id :: st, w) Q X := by
  intro G p l e R s m args below meth c Z hΦ C h1 h2 h3 h4 H locs cells slots ls g1 g0 g2 g3 g4 g5 T hT X9
  obtain ⟨hws, hnm, hret, hy, hnL⟩ := hm
  have Cc := C
  obtain ⟨hexec, hbb, hml, hown, hts, hK, hF, hlt⟩ := C
  have hM := c_MetA (G := G) E hlt
  have g1 : q_hd G n w H := g1
  have hsz : t = true → H.size = G.2.2.1 + n + 1 := fun h9 => q_tight g1 hn hT X9 (g0 h9)
  have hgood : GoodIn q_TB (q_wd M') := q_in_good (by
    intro w9 h9
    rcases List.mem_cons.mp h9 with rfl | h9
    · exact hws _ (by simp)
    · exact h9)
  have hp : PreS s H (c_PcA G n t w [.ref id]) [.ref (G.2.2.1 + id)] := by
    refine ⟨c_PcA_blind, fun U hU hW => ⟨⟨?_, ?_, fun h9 => (by rw [hU]; exact hsz h9), q_K.warm hW hK, ?_⟩, va_AO.moved hW.alike (hΨ _ _ _ _ _ _ _ _ _ _ _ _ hΦ)⟩⟩
    · rw [List.map_cons, List.map_nil, q_tv_pos G hid]
    · show q_hd G n w U.heap
      rw [hU]; exact g1
    · rw [hU]; exact q_F.moved hW.alike (q_F.kept hF (fun q hq hA => g2.2.1 q hq hA))
  have hrun : va_Run p l e R s m args below meth c H locs cells slots a' b' (F0 m pc ls (.ref (G.2.2.1 + id) :: st.map (q_tv G))) (st.map (q_tv G)) (q_Qc G Q1 [Value.ref (G.2.2.1 + id)].toArray) (q_A G) := by
    rcases hl with hl | hl
    · refine va_runI (As := []) (n := 0) (index := idx) (bytes := M'.2.2.1) (maxL := M'.2.2.2.1) ⟨hexec, hbb, hml, hown, hts⟩ hM ⟨?_, hnm, hts _ (hws _ List.mem_cons_self)⟩ hp rfl rfl g3.1 rfl (by show 2 * 0 + _ ≤ 8; rw [q_cats]; omega) hdec ⟨by omega, by omega⟩
      exact callB_of 0 hts hgood (by rw [← hret]) rfl rfl (hts _ (hws _ (by simp))) (hts _ hl) hy ⟨by show d' + 1 ≤ R.frames; omega, by show 8 + (M'.2.2.2.1 + 11) + 64 * d' ≤ R.locals; omega⟩
    · refine va_runIN (As := []) (n := 0) (index := idx) (host := "DuskDebts") (bytes := M'.2.2.1) (maxL := M'.2.2.2.1) ⟨hexec, hbb, hml, hown, hts⟩ hM ⟨?_, hnm, hts _ (hws _ List.mem_cons_self)⟩ hp rfl rfl g3.1 rfl (by show 2 * 0 + _ ≤ 8; rw [q_cats]; omega) hdec ⟨by omega, by omega⟩
      exact va_cnB 0 hts hgood (by rw [← hret]) rfl rfl (hK.2.2.2.1 _ hl) (hts _ (hws _ (by simp))) hy ⟨by show d' + 1 ≤ R.frames; omega, by show 8 + (M'.2.2.2.1 + 11) + 64 * d' ≤ R.locals; omega⟩
  have goal : ∃ t2, Steps p.tables e below (T.setTop (F0 m pc ls (.ref (G.2.2.1 + id) :: st.map (q_tv G)))) t2 ∧ Z t2 := by
    obtain ⟨v, st₀, u, T', L9, e0, X', hL, e1, e2, ⟨⟨r, n', w', hr, hQ, hh⟩, hva⟩, hgo⟩ := hrun T hT X9
    cases hr
    have hS : va_S (q_A G) s.heap T'.heap (locs ++ L9) := by
      rw [e1]
      refine ⟨Nat.le_trans g2.1 (by rw [← e0]; exact hva.1), fun q hq hA => ?_, fun z hz => ?_⟩
      · rw [hva.2 q (by rw [e0]; exact Nat.lt_of_lt_of_le hq g2.1) hA, e0]
        exact g2.2.1 q hq hA
      · rcases List.mem_append.mp hz with h9 | h9
        · exact g2.2.2 z h9
        · exact hL z h9
    obtain ⟨t2, a1, b1⟩ := kk r n' w' hQ G p l e R s m args below meth c Z hΦ Cc h1 h2 h3 h4 T'.heap (locs ++ L9) (cells + a') (slots + b') ls (by rw [e1]; exact hh) (fun h9 => by have := g0 h9; have := ht h9 r n' w' hQ; omega) hS g3 (by omega) (by omega) T' rfl X'
    refine ⟨t2, hgo t2 ?_, b1⟩
    have e9 : (r.toList ++ st).map (q_tv G) = (r.map (q_tv G)).toList ++ st.map (q_tv G) := by
      cases r <;> rfl
    rw [← e9]
    exact a1
  have e8 : (.ref id :: st : List Value).map (q_tv G) = .ref (G.2.2.1 + id) :: st.map (q_tv G) := by rw [List.map_cons, q_tv_pos G hid]
  show ∃ t2, Steps p.tables e below (T.setTop (F0 m pc ls ((.ref id :: st : List Value).map (q_tv G)))) t2 ∧ Z t2
  rw [e8]
  exact goal
end FCtor
def ini_0 : q_Mem := (fun _ _ => 0, fun _ _ => 0, fun _ _ _ => 0)
def ini_1 : q_Mem := ci_79 (ci_1 ini_0)
def ini_u : q_Sm := (ini_1.1, fun _ _ => 0, (4, 20, 36, 40, 44, 48))
theorem ini_Z : c_Z 0 ini_0 := fun i _ => ⟨fun _ => rfl, fun _ => rfl, fun _ _ => rfl⟩
theorem arrV_cg {c : ClassId} {n : Nat} {f g : Nat → Value} (h : ∀ j, j < n → f j = g j) : arrV c n f = arrV c n g := by
  unfold arrV
  have e : (fun j : Fin n => f j.val) = fun j : Fin n => g j.val := funext (fun j => h j.val j.isLt)
  rw [e]
theorem ini_long : ini_1.2.1 = fun _ _ => 0 := rfl
theorem ini_R : ((List.range 117).all (fun id => (List.range (q_sh id).2).all (fun j => !((decide ((q_sh id).1 < 13) && q_ir (q_sh id).1 j) || decide ((q_sh id).1 = 17)) || decide (ini_1.2.2 (q_sh id).1 id j = q_R (4, 20, 36, 40, 44, 48) (q_sh id).1 id j)))) = true := by decide +kernel
theorem ini_R1 {id j : Nat} (hid : id ≤ 116) (hj : j < (q_sh id).2) (h : ((q_sh id).1 < 13 ∧ q_ir (q_sh id).1 j = true) ∨ (q_sh id).1 = 17) : ini_1.2.2 (q_sh id).1 id j = q_R (4, 20, 36, 40, 44, 48) (q_sh id).1 id j := by
  have h1 := List.all_eq_true.mp (List.all_eq_true.mp ini_R id (List.mem_range.mpr (by omega))) j (List.mem_range.mpr hj)
  rw [Bool.or_eq_true] at h1
  rcases h1 with h1 | h1
  · exfalso
    rw [Bool.not_eq_true'] at h1
    rcases h with ⟨h2, h3⟩ | h2
    · simp [h2, h3] at h1
    · simp [h2] at h1
  · exact of_decide_eq_true h1
theorem ini_hd {G : q_G} {H : Heap} (h : q_hd G 116 ini_1 H) : q_hd G 116 (q_mm ini_u) H := by
  intro k q hq
  have hk : k < 116 := by
    have h9 := (List.getElem?_eq_some_iff.mp hq).1
    simpa [q_ws] using h9
  have e1 := q_ws_get (G := G) (w := q_mm ini_u) (n := 116) (id := k + 1) (by omega) (by omega)
  rw [Nat.add_sub_cancel, hq] at e1
  cases e1
  have h2 := h k _ (by have e2 := q_ws_get (G := G) (w := ini_1) (n := 116) (id := k + 1) (by omega) (by omega); rw [Nat.add_sub_cancel] at e2; exact e2)
  by_cases hx : (q_sh (k + 1)).1 < 13
  · have e3 : q_cell G (q_mm ini_u) (k + 1) = q_cell G ini_1 (k + 1) := by
      rw [q_cell_obj (x := (q_sh (k + 1)).1) rfl hx, q_cell_obj (x := (q_sh (k + 1)).1) rfl hx]
      have e4 : (List.range (q_N (q_sh (k + 1)).1)).map (q_fv G (q_mm ini_u) (k + 1) (q_sh (k + 1)).1) = (List.range (q_N (q_sh (k + 1)).1)).map (q_fv G ini_1 (k + 1) (q_sh (k + 1)).1) := by
        refine List.map_congr_left (fun j hj => ?_)
        have hj : j < (q_sh (k + 1)).2 := by rw [q_shlen hx]; exact List.mem_range.mp hj
        unfold q_fv
        by_cases hr : q_ir (q_sh (k + 1)).1 j = true
        · rw [if_pos hr, if_pos hr, ini_R1 (by omega) hj (Or.inl ⟨hx, hr⟩)]
          rfl
        · rw [if_neg hr, if_neg hr]
          rfl
      rw [e4]
    rw [e3]
    exact h2
  · rw [q_cell_arr (x := (q_sh (k + 1)).1) rfl hx] at h2 ⊢
    by_cases h17 : (q_sh (k + 1)).1 = 17
    · have e5 : vp_cell (G.2.1 (q_sh (k + 1)).1) ((q_sh (k + 1)).2, q_arr G (q_mm ini_u) (k + 1) (q_sh (k + 1)).1) = vp_cell (G.2.1 (q_sh (k + 1)).1) ((q_sh (k + 1)).2, q_arr G ini_1 (k + 1) (q_sh (k + 1)).1) := by
        have a1 : ∀ w : q_Mem, q_arr G w (k + 1) (q_sh (k + 1)).1 = .inr (.inr (.inr (.inr (fun j => q_rf G (w.2.2 (q_sh (k + 1)).1 (k + 1) j))))) := by
          intro w
          rw [h17]
          rfl
        rw [a1, a1, vp_cell_q, vp_cell_q]
        refine arrV_cg (fun j hj => ?_)
        rw [ini_R1 (by omega) hj (Or.inr h17)]
        rfl
      show H[_]? = some (vp_cell _ _)
      rw [e5]
      exact h2
    · have e6 : q_arr G (q_mm ini_u) (k + 1) (q_sh (k + 1)).1 = q_arr G ini_1 (k + 1) (q_sh (k + 1)).1 := by
        unfold q_arr
        rw [if_neg h17, if_neg h17]
        rfl
      rw [e6]
      exact h2
theorem ini_start {Φ : f_Cc} {d a b : Nat} {Q : q_Po} {X : q_Xo} (hd : 6 ≤ d) (hΨ : ∀ G p l e R s m args below meth c Z, Φ G p l e R s m args below meth c Z → va_AO "DuskDebts$Past" s)
    (k : f_Ex Φ d a b (13, x, code, 8, ret) 116 true (23, [some (.retAddr 999), some (.ref 1), some (.ref 79), some (.ref 116), some (.int 0), none, none, none], [], ini_1) Q X) : f_Ex Φ d (a + 1 + 36 + 1 + 77) (b + 1 + 6624 + 67 + 6245) (13, x, code, 8, ret) 1 true (3, [some (.retAddr 999), none, none, none, none, none, none, none], [.ref 1], ini_0) Q X := by
  have z1 : c_Z 1 ini_0 := ini_Z.le (by decide)
  have z78 : c_Z 78 (ci_1 ini_0) := cz_1 z1
  have z79 : c_Z 79 (ci_1 ini_0) := z78.le (by decide)
  have z115 : c_Z 115 ini_1 := cz_79 z79
  refine fg_blk [(.dup, 1, 0, 0)] 4 [some (.retAddr 999), none, none, none, none, none, none, none] [.ref 1, .ref 1] ini_0 [] (by decide +kernel) (by refine gt_dupR ?_; exact gt_z rfl rfl rfl rfl rfl) trivial ?_
  refine f_Ex_callA (idx := 113) (d' := 5) (a' := 77) (b' := 6245) (M' := mX11_init) c_IW11 (by decide) (Or.inl ((q_inTB [148] (by decide +kernel) (by decide +kernel) : ∀ w ∈ [Cond.methodLink (q_own 13) 113 mX11_init.2.1], w ∈ q_TB) _ List.mem_cons_self)) (by decide +kernel) hΨ (cv_1 z1) (by decide) (Nat.le_of_ble_eq_true rfl) (by omega) (by omega) (by omega) (fun _ r n' w' h => h.2.1) ?_
  rintro r n' w' ⟨rfl, rfl, rfl⟩
  rw [show a + 1 + 36 + 1 + 77 - 77 = a + 1 + 36 + 1 by omega, show b + 1 + 6624 + 67 + 6245 - 6245 = b + 1 + 6624 + 67 by omega]
  show f_Ex Φ d (a + 1 + 36 + 1) (b + 1 + 6624 + 67) (13, x, code, 8, ret) 78 true (7, [some (.retAddr 999), none, none, none, none, none, none, none], [.ref 1], ci_1 ini_0) Q X
  refine fg_blk [(.astore_n 1, 1, 0, 0)] 8 [some (.retAddr 999), some (.ref 1), none, none, none, none, none, none] [] (ci_1 ini_0) [] (by decide +kernel) (by refine gt_astore_n (L' := [some (.retAddr 999), some (.ref 1), none, none, none, none, none, none]) rfl ?_; exact gt_z rfl rfl rfl rfl rfl) trivial ?_
  refine f_Ex_new (idx := 114) (a := a + 1 + 36) (b := b + 1 + 6624) (x := 12) (by decide) (by decide) rfl ⟨(z78 79 (by decide)).1, (z78 79 (by decide)).2.2⟩ (by decide +kernel) c_NW13_114 ?_
  refine fg_blk [(.dup, 1, 0, 0)] 12 [some (.retAddr 999), some (.ref 1), none, none, none, none, none, none] [.ref 79, .ref 79] (ci_1 ini_0) [] (by decide +kernel) (by refine gt_dupR ?_; exact gt_z rfl rfl rfl rfl rfl) trivial ?_
  refine f_Ex_callI (idx := 116) (d' := 4) (a' := 36) (b' := 6624) (M' := mX12_init) c_IW12 (by decide) (Or.inl ((q_inTB [1586] (by decide +kernel) (by decide +kernel) : ∀ w ∈ [Cond.methodLink (q_own 13) 116 mX12_init.2.1], w ∈ q_TB) _ List.mem_cons_self)) (by decide +kernel) (cv_79 z79 (z78 79 (by decide)).1) (by decide) (Nat.le_of_ble_eq_true rfl) (by omega) (by omega) (by omega) (fun _ r n' w' h => h.2.1) ?_
  rintro r n' w' ⟨rfl, rfl, rfl⟩
  rw [show a + 1 + 36 - 36 = a + 1 by omega, show b + 1 + 6624 - 6624 = b + 1 by omega]
  show f_Ex Φ d (a + 1) (b + 1) (13, x, code, 8, ret) 115 true (15, [some (.retAddr 999), some (.ref 1), none, none, none, none, none, none], [.ref 79], ini_1) Q X
  refine fg_blk [(.astore_n 2, 1, 0, 0), (.iconst 1, 1, 0, 0)] 17 [some (.retAddr 999), some (.ref 1), some (.ref 79), none, none, none, none, none] [.int 1] ini_1 [] (by decide +kernel) (by refine gt_astore_n (L' := [some (.retAddr 999), some (.ref 1), some (.ref 79), none, none, none, none, none]) rfl ?_; refine gt_iconst (v := 1) (by decide) ?_; exact gt_z rfl rfl rfl rfl rfl) trivial ?_
  refine f_Ex_newarr (a := a) (b := b) (N := 1) (x := 15) (by decide) (by decide) (by decide) (by decide) (by decide) rfl ⟨(z115 116 (by decide)).1, (z115 116 (by decide)).2.1⟩ (by decide +kernel) c_AW15 ?_
  refine fg_blk [(.astore_n 3, 1, 0, 0), (.iconst 0, 1, 0, 0), (.istore 4, 2, 0, 0)] 23 [some (.retAddr 999), some (.ref 1), some (.ref 79), some (.ref 116), some (.int 0), none, none, none] [] ini_1 [] (by decide +kernel) (by refine gt_astore_n (L' := [some (.retAddr 999), some (.ref 1), some (.ref 79), some (.ref 116), none, none, none, none]) rfl ?_; refine gt_iconst (v := 0) (by decide) ?_; refine gt_istore (L' := [some (.retAddr 999), some (.ref 1), some (.ref 79), some (.ref 116), some (.int 0), none, none, none]) rfl ?_; exact gt_z rfl rfl rfl rfl rfl) trivial ?_
  exact k
