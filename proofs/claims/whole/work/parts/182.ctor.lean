/-! constructors: what is made and set for the first time -/
def c_pt (w : q_Mem) (x id k v : Nat) : q_Mem := (w.1, w.2.1, q_upR w.2.2 x id k v)
def c_In : p_Cc := fun _ s m _ _ => ∀ mt : Method, s.vm.method? m = some mt → mt.name = "<init>"
def c_rf : FieldType → Bool
  | .object _ => true
  | .array _ => true
  | _ => false
theorem c_rf_ok {ty : FieldType} (h : c_rf ty = true) (G : q_G) (v : Nat) : narrow ty (q_tv G (.ref v)) = q_tv G (.ref v) ∧ fits ty (q_tv G (.ref v)) = true ∧ defaultValue ty = .null := by
  unfold c_rf at h
  split at h
  · by_cases hv : v = 0 <;> simp [q_tv, hv, fits, narrow, defaultValue]
  · by_cases hv : v = 0 <;> simp [q_tv, hv, fits, narrow, defaultValue]
  · cases h
theorem c_tys {x : Nat} (h : x < 13) : ∀ k, k < q_N x → (if q_ir x k then c_rf (q_ty x k) else q_isIntTy (q_ty x k)) = true :=
  q_13 (P := fun x => ∀ k, k < q_N x → (if q_ir x k then c_rf (q_ty x k) else q_isIntTy (q_ty x k)) = true) (by decide +kernel) (by decide +kernel) (by decide +kernel) (by decide +kernel) (by decide +kernel) (by decide +kernel) (by decide +kernel) (by decide +kernel) (by decide +kernel) (by decide +kernel) (by decide +kernel) (by decide +kernel) (by decide +kernel) h
theorem c_born {G : q_G} {w : q_Mem} {n x : Nat} (hx : x < 13) (hsh : (q_sh (n + 1)).1 = x) (hz : (∀ j, w.1 (n + 1) j = 0) ∧ ∀ y j, w.2.2 y (n + 1) j = 0) : ∀ j, j < q_N x → defaultValue (q_ty x j) = vp_V ((List.range (q_N x)).map (q_fv G w (n + 1) x)) j := by
  intro j hj
  have e1 : vp_V ((List.range (q_N x)).map (q_fv G w (n + 1) x)) j = q_fv G w (n + 1) x j := by
    simp [vp_V, hj]
  rw [e1]
  have h1 := c_tys hx j hj
  unfold q_fv
  by_cases hr : q_ir x j = true
  · rw [if_pos hr] at h1 ⊢
    rw [hz.2, (c_rf_ok h1 G 0).2.2]
    rfl
  · rw [if_neg hr] at h1 ⊢
    rw [hz.1, q_ty_int h1]
    rfl
section CtorR
variable {Φ : p_Cc} {d a b d' a' b' n k idx x id pc : Nat} {M M' : q_Mt} {L : List (Option Value)} {st As : List Value} {w : q_Mem} {Q Q1 : q_Po} {X : q_Xo}
theorem p_Ex_new (hx : x < 13) (hn : 0 < n) (hsh : (q_sh (n + 1)).1 = x) (hz : (∀ j, w.1 (n + 1) j = 0) ∧ ∀ y j, w.2.2 y (n + 1) j = 0) (hdec : decode M.2.2.1 pc = .ok (.new idx, 3))
    (hws : ∀ w ∈ [Cond.classLink (q_own M.1) idx (q_own x), Cond.instantiable (q_own x) (q_N x), Cond.initialized (q_own x)], w ∈ q_TB)
    (k9 : p_Ex Φ d a b M (n + 1) true (pc + 3, L, .ref (n + 1) :: st, w) Q X) : p_Ex Φ d (a + 1) (b + q_N x) M n true (pc, L, st, w) Q X := by
  intro G p l e R s m args below meth c Z hΦ C h1 h2 h3 h4 H locs cells slots ls g1 g0 g2 g3 g4 g5 T hT X9
  obtain ⟨hexec, hbb, hml, hown, hts, hK, hF, hlt⟩ := (fun y => y) C
  have hsz : H.size = G.2.2.1 + n + 1 := q_tight g1 hn hT X9 (g0 rfl)
  have hKn := hK.1.1 x _ (q_cl hx)
  have goal : W p l e R s m args below meth c H locs cells slots Z (F0 m pc ls (st.map (q_tv G))) := by
    refine W.newcK (n := q_N x) (g := F0 m pc ls (st.map (q_tv G))) hexec hbb hown (hts _ (hws _ List.mem_cons_self)) (hts _ (hws _ (by simp))) (hts _ (hws _ (by simp))) rfl hdec (by omega) (by omega) hKn.2.1 hsz (fun H' kC hkC e1 z1 o1 => ?_)
    have hnew : va_at G.1 vwCl (G.2.2.1 + (n + 1), q_cell G w (n + 1)) H' := by
      rw [q_cell_obj hsh hx]
      exact ⟨_, q_cl hx, (u_born (q_ty x) hts (q_uw hx) hKn hkC e1 (q_tyok hx)).to (c_born hx hsh hz)⟩
    have k2 := k9 G p l e R s m args below meth c Z hΦ C h1 h2 h3 h4 H' locs (cells + 1) (slots + q_N x) ls (q_hd.push g1 (fun q hq => o1 q (by omega)) hnew) (fun _ => by have := g0 rfl; omega) (q_S_grow g2 hsz (by omega) (fun q hq => o1 q (by omega))) g3 (by omega) (by omega)
    have e9 : q_tv G (.ref (n + 1)) = .ref (G.2.2.1 + n + 1) := by rw [q_tv_pos G (by omega)]; rfl
    have k3 : W p l e R s m args below meth c H' locs (cells + 1) (slots + q_N x) Z (F0 m (pc + 3) ls (q_tv G (.ref (n + 1)) :: st.map (q_tv G))) := k2
    rw [e9] at k3
    exact k3
  exact goal T hT X9
theorem p_Ex_obj {t : Bool} (hid : 0 < id) (hdec : decode M.2.2.1 pc = .ok (.invokespecial idx, 3)) (hst : (st.map fun v => v.category).sum ≤ 8) (hd : 1 ≤ d)
    (hws : ∀ w ∈ [Cond.methodLink (q_own M.1) idx Lib.objectInit, Cond.instanceMethod Lib.objectInit, Cond.code Lib.objectInit ⟨#[0xb1]⟩ 1 none], w ∈ q_TB)
    (k9 : p_Ex Φ d a b M n t (pc + 3, L, st, w) Q X) : p_Ex Φ d a b M n t (pc, L, .ref id :: st, w) Q X := by
  intro G p l e R s m args below meth c Z hΦ C h1 h2 h3 h4 H locs cells slots ls g1 g0 g2 g3 g4 g5
  obtain ⟨hexec, hbb, hml, hown, hts, hK, hF, hlt⟩ := (fun y => y) C
  have k2 := k9 G p l e R s m args below meth c Z hΦ C h1 h2 h3 h4 H locs cells slots ls g1 g0 g2 g3 g4 g5
  have e9 : q_tv G (.ref id) = .ref (G.2.2.1 + id) := q_tv_pos G hid
  show W p l e R s m args below meth c H locs cells slots Z (F0 m pc ls (q_tv G (.ref id) :: st.map (q_tv G)))
  rw [e9]
  exact W.objInit (g := F0 m pc ls (.ref (G.2.2.1 + id) :: st.map (q_tv G))) hexec hbb hown (hts _ (hws _ List.mem_cons_self)) (hts _ (hws _ (by simp))) (hts _ (hws _ (by simp))) rfl (g3.1.trans hml.symm) rfl hdec (by omega) (by show 2 * 0 + _ + 12 ≤ _; rw [q_cats]; omega) k2
/-- a field that holds a reference, set in its constructor -/
theorem p_Ex_putF {t : Bool} {v : Nat} (hΦ0 : ∀ G s m args c, Φ G s m args c → c_In G s m args c) (hx : x < 13) (hk : k < q_N x) (hF : (M.1, idx, x, k) ∈ q_FR) (hr : q_ir x k = true) (hfin : q_fin x k = true) (hdecl : (q_T x k).1 = q_own M.1) (hid : q_id n x id) (hdec : decode M.2.2.1 pc = .ok (.putfield idx, 3))
    (k9 : p_Ex Φ d a b M n t (pc + 3, L, st, c_pt w x id k v) Q X) : p_Ex Φ d a b M n t (pc, L, .ref v :: .ref id :: st, w) Q X := by
  intro G p l e R s m args below meth c Z hΦ C h1 h2 h3 h4 H locs cells slots ls g1 g0 g2 g3 g4 g5 T hT X9
  obtain ⟨hexec, hbb, hml, hown, hts, hK, hF9, hlt⟩ := (fun y => y) C
  obtain ⟨⟨i1, i2⟩, i3⟩ := hid
  have he : (q_ws G n w)[id - 1]? = some (G.2.2.1 + id, .inr (x, (List.range (q_N x)).map (q_fv G w id x))) := by
    rw [q_ws_get i1 i2, q_cell_obj i3 hx]
  have hnew : (q_ws G n w).set (id - 1) (G.2.2.1 + id, .inr (x, ((List.range (q_N x)).map (q_fv G w id x)).set k (q_tv G (.ref v)))) = q_ws G n (w.1, w.2.1, q_upR w.2.2 x id k v) := by
    refine q_ws_set (G := G) (w := w) (w' := (w.1, w.2.1, q_upR w.2.2 x id k v)) i1 i2 (fun j hj => q_cell_congr (fun _ => rfl) (fun _ => rfl) (fun y k' => by simp [q_upR, hj])) ?_
    rw [q_cell_obj i3 hx, q_map_set (k := k) (f := q_fv G w id x) hk (fun j hj => by simp [q_fv, q_upR, hj])]
    simp [q_fv, q_upR, hr, q_tv_ref]
  have ht := c_tys hx k hk
  rw [if_pos hr] at ht
  obtain ⟨t1, t2, -⟩ := c_rf_ok ht G v
  have goal : W p l e R s m args below meth c H locs cells slots Z (F0 m pc ls (q_tv G (.ref v) :: .ref (G.2.2.1 + id) :: st.map (q_tv G))) := by
    refine va_putF (ty := q_ty x k) (v := q_tv G (.ref v)) hexec hbb hts (q_uw hx) (q_ty x) (q_tyok hx) (q_nm hx) hown hK.1 g1 (q_D G n w) g2 (id - 1) he (q_cl hx) k hk (hts _ (q_FR_in _ (List.mem_map_of_mem (f := q_fw) hF))) (fun _ h9 => h9) hfin (hΦ0 _ _ _ _ _ hΦ _ X9.method) hdecl (q_tyok hx k hk) t1 t2 (by simp [hk]) hdec (fun H1 locs1 hP1 hD1 hS1 => ?_)
    rw [hnew] at hP1
    exact k9 G p l e R s m args below meth c Z hΦ C h1 h2 h3 h4 H1 locs1 cells slots ls hP1 g0 hS1 g3 g4 g5
  have goal2 : W p l e R s m args below meth c H locs cells slots Z (F0 m pc ls ((.ref v :: .ref id :: st : List Value).map (q_tv G))) := by
    rw [List.map_cons, List.map_cons, q_tv_pos G i1]
    exact goal
  exact goal2 T hT X9
/-- a call of a constructor -/
def c_mokI (M : q_Mt) : Prop := (∀ w ∈ [Cond.instanceMethod M.2.1, Cond.initialized M.2.1.cls, Cond.code M.2.1 M.2.2.1 M.2.2.2.1 M.2.2.2.2], w ∈ q_TB) ∧ M.2.1.name = "<init>" ∧ M.2.2.2.2 = none ∧
  (M.2.1.cls ≠ "java/lang/invoke/MethodHandle" ∧ M.2.1.cls ≠ "java/lang/invoke/VarHandle" ∧ (parseMethodDescriptor M.2.1.desc).map (fun d => d.parameters.length) = some 0) ∧ M.2.2.2.1 + 19 ≤ 64
theorem c_Met {l : Launch} {G : q_G} {t : Bool} (E : q_Ev d' a' b' M' n t w As Q1 (fun _ _ _ => False)) (hl : l.stackTraces = false) : Met l M'.2.1 (q_wd M') (q_rm d' a' b') (q_Pc G n t w As) (q_Qc G Q1) a' b' (q_A G) := by
  refine MetFree.mono (E l G hl) (fun _ _ hp => hp) (fun _ _ _ _ _ hk => hk) (fun a9 s o s' _ hq => ?_)
  rcases hq with h | ⟨q, h1, E9, ce, L9, ⟨⟨n', w', h2, -⟩, -⟩, -⟩
  · exact h
  · exact h2.elim
theorem p_Ex_callI {t : Bool} (hm : c_mokI M') (hn : 0 < n) (hl : Cond.methodLink (q_own M.1) idx M'.2.1 ∈ q_TB ∨ (q_own M.1, idx, M'.2.1) ∈ q_NM) (hdec : decode M.2.2.1 pc = .ok (.invokespecial idx, 3)) (E : q_Ev d' a' b' M' n t w [.ref id] Q1 (fun _ _ _ => False)) (hid : 0 < id) (hst : (st.map fun v => v.category).sum ≤ 8)
    (hd : d' + 1 ≤ d) (ha : a' ≤ a) (hb : b' ≤ b) (ht : t = true → ∀ r n' w', Q1 r n' w' → n' = n + a')
    (kk : ∀ r n' w', Q1 r n' w' → p_Ex Φ d (a - a') (b - b') M n' t (pc + 3, L, r.toList ++ st, w') Q X) : p_Ex Φ d a b M n t (pc, L, .ref id :: st, w) Q X := by
  intro G p l e R s m args below meth c Z hΦ C h1 h2 h3 h4 H locs cells slots ls g1 g0 g2 g3 g4 g5 T hT X9
  obtain ⟨hws, hnm, hret, hy, hnL⟩ := hm
  have Cc := C
  obtain ⟨hexec, hbb, hml, hown, hts, hK, hF, hlt⟩ := C
  have hM := c_Met (G := G) E hlt
  have g1 : q_hd G n w H := g1
  have hsz : t = true → H.size = G.2.2.1 + n + 1 := fun h9 => q_tight g1 hn hT X9 (g0 h9)
  have hgood : GoodIn q_TB (q_wd M') := q_in_good (by
    intro w9 h9
    rcases List.mem_cons.mp h9 with rfl | h9
    · exact hws _ (by simp)
    · exact h9)
  have hp : PreS s H (q_Pc G n t w [.ref id]) [.ref (G.2.2.1 + id)] := by
    refine ⟨q_Pc_blind, fun U hU hW => ⟨?_, ?_, fun h9 => (by rw [hU]; exact hsz h9), q_K.warm hW hK, ?_⟩⟩
    · rw [List.map_cons, List.map_nil, q_tv_pos G hid]
    · show q_hd G n w U.heap
      rw [hU]; exact g1
    · rw [hU]; exact q_F.moved hW.alike (q_F.kept hF (fun q hq hA => g2.2.1 q hq hA))
  have hrun : va_Run p l e R s m args below meth c H locs cells slots a' b' (F0 m pc ls (.ref (G.2.2.1 + id) :: st.map (q_tv G))) (st.map (q_tv G)) (q_Qc G Q1 [Value.ref (G.2.2.1 + id)].toArray) (q_A G) := by
    rcases hl with hl | hl
    · refine va_runI (As := []) (n := 0) (index := idx) (bytes := M'.2.2.1) (maxL := M'.2.2.2.1) ⟨hexec, hbb, hml, hown, hts⟩ hM ⟨?_, hnm, hts _ (hws _ List.mem_cons_self)⟩ hp rfl rfl g3.1 rfl (by show 2 * 0 + _ ≤ 8; rw [q_cats]; omega) hdec ⟨by omega, by omega⟩
      exact callB_of 0 hts hgood (by rw [← hret]) rfl rfl (hts _ (hws _ (by simp))) (hts _ hl) hy ⟨by show d' + 1 ≤ R.frames; omega, by show 8 + (M'.2.2.2.1 + 11) + 64 * d' ≤ R.locals; omega⟩
    · refine va_runIN (As := []) (n := 0) (index := idx) (host := "DuskDebts") (bytes := M'.2.2.1) (maxL := M'.2.2.2.1) ⟨hexec, hbb, hml, hown, hts⟩ hM ⟨?_, hnm, hts _ (hws _ List.mem_cons_self)⟩ hp rfl rfl g3.1 rfl (by show 2 * 0 + _ ≤ 8; rw [q_cats]; omega) hdec ⟨by omega, by omega⟩
      exact va_cnB 0 hts hgood (by rw [← hret]) rfl rfl (hK.2.2.2.1 _ hl) (hts _ (hws _ (by simp))) hy ⟨by show d' + 1 ≤ R.frames; omega, by show 8 + (M'.2.2.2.1 + 11) + 64 * d' ≤ R.locals; omega⟩
  have goal : ∃ t2, Steps p.tables e below (T.setTop (F0 m pc ls (.ref (G.2.2.1 + id) :: st.map (q_tv G)))) t2 ∧ Z t2 := by
    obtain ⟨v, st₀, u, T', L9, e0, X', hL, e1, e2, ⟨⟨r, n', w', hr, hQ, hh⟩, hva⟩, hgo⟩ := hrun T hT X9
    cases hr
    have hS : va_S (q_A G) s.heap T'.heap (locs ++ L9) := by
      rw [e1]
      refine ⟨Nat.le_trans g2.1 (by rw [← e0]; exact hva.1), fun q hq hA => ?_, fun z hz => ?_⟩
      · rw [hva.2 q (by rw [e0]; exact Nat.lt_of_lt_of_le hq g2.1) hA, e0]
        exact g2.2.1 q hq hA
      · rcases List.mem_append.mp hz with h9 | h9
        · exact g2.2.2 z h9
        · exact hL z h9
    obtain ⟨t2, a1, b1⟩ := kk r n' w' hQ G p l e R s m args below meth c Z hΦ Cc h1 h2 h3 h4 T'.heap (locs ++ L9) (cells + a') (slots + b') ls (by rw [e1]; exact hh) (fun h9 => by have := g0 h9; have := ht h9 r n' w' hQ; omega) hS g3 (by omega) (by omega) T' rfl X'
    refine ⟨t2, hgo t2 ?_, b1⟩
    have e9 : (r.toList ++ st).map (q_tv G) = (r.map (q_tv G)).toList ++ st.map (q_tv G) := by
      cases r <;> rfl
    rw [← e9]
    exact a1
  have e8 : (.ref id :: st : List Value).map (q_tv G) = .ref (G.2.2.1 + id) :: st.map (q_tv G) := by rw [List.map_cons, q_tv_pos G hid]
  show ∃ t2, Steps p.tables e below (T.setTop (F0 m pc ls ((.ref id :: st : List Value).map (q_tv G)))) t2 ∧ Z t2
  rw [e8]
  exact goal
end CtorR
theorem p_Ex_newarr {Φ : p_Cc} {d a b pc n N x : Nat} {M : q_Mt} {L : List (Option Value)} {st : List Value} {w : q_Mem} {Q : q_Po} {X : q_Xo} {v : Int32} (hx : x = 13 ∨ x = 14 ∨ x = 15 ∨ x = 16) (hn : 0 < n) (hv : ¬ v < 0) (hN : v.toNatClampNeg = N) (hb : N ≤ 4000) (hsh : q_sh (n + 1) = (x, N)) (hz : (∀ j, w.1 (n + 1) j = 0) ∧ ∀ j, w.2.1 (n + 1) j = 0)
    (hdec : decode M.2.2.1 pc = .ok (.newarray (q_aty x), 2)) (hw : Cond.arrayClass (newarray.typeOf (q_aty x)) ∈ q_TB)
    (k : p_Ex Φ d a b M (n + 1) true (pc + 2, L, .ref (n + 1) :: st, w) Q X) : p_Ex Φ d (a + 1) (b + N) M n true (pc, L, .int v :: st, w) Q X := by
  intro G p l e R s m args below meth c Z hΦ C h1 h2 h3 h4 H locs cells slots ls g1 g0 g2 g3 g4 g5 T hT X9
  obtain ⟨hexec, hbb, hml, hown, hts, hK, hF, hlt⟩ := id C
  have hsz : H.size = G.2.2.1 + n + 1 := q_tight g1 hn hT X9 (g0 rfl)
  have goal : W p l e R s m args below meth c H locs cells slots Z (F0 m pc ls (.int v :: st.map (q_tv G))) := by
    refine va_newaK (g := F0 m pc ls (.int v :: st.map (q_tv G))) (N := N) hexec hbb (hts _ hw) rfl hdec rfl hv hN ?_ (by omega) (by omega) hsz (fun H' cA e1 e2 e3 e4 e5 => ?_)
    · rcases hx with rfl | rfl | rfl | rfl <;> simp only [q_aty, newarray.typeOf, componentBytes] <;> omega
    · have hcA : cA = G.2.1 x := by
        have h9 := hK.2.2.2.2.2.2
        rcases hx with rfl | rfl | rfl | rfl
        · exact Option.some.inj (e5.symm.trans (h9 (13, "[B") (by simp [q_AN])))
        · exact Option.some.inj (e5.symm.trans (h9 (14, "[I") (by simp [q_AN])))
        · exact Option.some.inj (e5.symm.trans (h9 (15, "[J") (by simp [q_AN])))
        · exact Option.some.inj (e5.symm.trans (h9 (16, "[Z") (by simp [q_AN])))
      have hnew : va_at G.1 vwCl (G.2.2.1 + (n + 1), q_cell G w (n + 1)) H' := by
        have hc : q_cell G w (n + 1) = .inl (G.2.1 x, N, q_arr G w (n + 1) x) := by
          rw [q_cell_arr (x := x) (by rw [hsh]) (by omega), hsh]
        rw [hc]
        show H'[G.2.2.1 + (n + 1)]? = some (vp_cell (G.2.1 x) (N, q_arr G w (n + 1) x))
        rw [show G.2.2.1 + (n + 1) = G.2.2.1 + n + 1 by omega, e1, hcA]
        have z1 : w.1 (n + 1) = fun _ => 0 := funext hz.1
        have z2 : w.2.1 (n + 1) = fun _ => 0 := funext hz.2
        rcases hx with rfl | rfl | rfl | rfl
        · rw [q_arr_i (Or.inl rfl), z1]; rfl
        · rw [q_arr_i (Or.inr (Or.inl rfl)), z1]; rfl
        · have : q_arr G w (n + 1) 15 = .inr (.inl (w.2.1 (n + 1))) := rfl
          rw [this, z2]; rfl
        · rw [q_arr_i (Or.inr (Or.inr rfl)), z1]; rfl
      have k2 := k G p l e R s m args below meth c Z hΦ C h1 h2 h3 h4 H' locs (cells + 1) (slots + N) ls (q_hd.push g1 (fun q hq => e3 q (by omega)) hnew) (fun _ => by have := g0 rfl; omega) (q_S_grow g2 hsz (by omega) (fun q hq => e3 q (by omega))) g3 (by omega) (by omega)
      have e9 : q_tv G (.ref (n + 1)) = .ref (G.2.2.1 + n + 1) := by rw [q_tv_pos G (by omega)]; rfl
      have k3 : W p l e R s m args below meth c H' locs (cells + 1) (slots + N) Z (F0 m (pc + 2) ls (q_tv G (.ref (n + 1)) :: st.map (q_tv G))) := k2
      rw [e9] at k3
      exact k3
  exact goal T hT X9

theorem c_ev {d a b : Nat} {M : q_Mt} {n : Nat} {t : Bool} {w : q_Mem} {As : List Value} {Q : q_Po} {X : q_Xo} (hy : plainName M.2.1.cls = true) (hown : M.2.1.cls = q_own M.1) (hlen : (q_ent As).length ≤ M.2.2.2.1)
    (hnm : M.2.1.name = "<init>") (h : p_Ex c_In d a b M n t (0, q_entry As M.2.2.2.1, [], w) Q X) : q_Ev d a b M n t w As Q X := by
  intro l G hl
  refine vx_ofW (cc := M.2.2.1) (maxL := M.2.2.2.1) (ret := M.2.2.2.2) hy rfl ?_
  intro p e s m args below meth c s₁ B hml hex hv
  obtain ⟨rfl, hP, ht, hK, hF⟩ := hv
  have hts0 := atoms_spec (ws := q_wd M) B.pre
  have C : q_Cx G p l s m (As.map (q_tv G)).toArray c M.1 M.2.2.1 M.2.2.2.1 := ⟨B.exec, B.bytes, hml, by rw [← hown]; exact findClass_of_methodNamed B.named, fun w hw => hts0 w (List.mem_cons_of_mem _ hw), hK, hF, hl⟩
  have hr := B.returns
  have hlocks := B.notSynchronized
  have hx := B.exec
  have hb := B.bytes
  have hent := lv_entry (As.map (q_tv G)) (n := M.2.2.2.1) (by rw [q_ent_len]; exact hlen)
  rw [lg_entry_eq]
  generalize (lg_sl (As.map (q_tv G)) ++ List.replicate (M.2.2.2.1 - (lg_sl (As.map (q_tv G))).length) Slot.unset).toArray = ls at hent ⊢
  have hlv : q_lv G ls M.2.2.2.1 (q_entry As M.2.2.2.1) := by
    refine ⟨hent.1, hent.2.1, fun i v hi => ?_⟩
    have h1 : (q_ent As)[i]? = some (some v) := by
      unfold q_entry at hi
      rw [List.getElem?_append] at hi
      split at hi
      · exact hi
      · rw [List.getElem?_replicate] at hi
        split at hi <;> cases hi
    have h2 := hent.2.2 _ (q_ent_mem (G := G) As 0 i v h1)
    rw [Nat.zero_add] at h2
    exact h2
  refine h G p l e _ s m _ below meth c _ (fun mt hmt => by cases Option.some.inj (B.method.symm.trans hmt); rw [← hnm]; exact (name_of_methodNamed B.named B.method).1) C (Nat.le_refl _) (Nat.le_refl _) ?_ ?_ s.heap [] 0 0 ls hP (fun h9 => by rw [Nat.add_zero]; exact ht h9) va_S.rf hlv (by rw [Nat.zero_add]; exact Nat.le_refl _) (by rw [Nat.zero_add]; exact Nat.le_refl _)
  · intro r n' w' H locs cells slots ls' pc hQ hn hh _ hS hc hs hd
    refine W.widen (k := a) (n := b) hc hs ?_
    refine vx_ret ?_
    cases r with
    | none =>
      have hn : M.2.2.2.2 = none := hn
      exact W.vret hx hb (hr.trans hn) (fun u hu hW => ⟨⟨none, n', w', rfl, hQ, by rw [hu]; exact hh⟩, hS.F hu⟩) hS.2.2 hd
    | some v =>
      cases v with
      | int v =>
        obtain ⟨ty, h1, h2⟩ := hn
        exact W.zret hx hb (hr.trans h1) h2 (fun u hu hW => ⟨⟨some (.int v), n', w', rfl, hQ, by rw [hu]; exact hh⟩, hS.F hu⟩) hS.2.2 hd
      | long v =>
        have hn : M.2.2.2.2 = some .long := hn
        exact W.lret hx hb (hr.trans hn) (fun u hu hW => ⟨⟨some (.long v), n', w', rfl, hQ, by rw [hu]; exact hh⟩, hS.F hu⟩) hS.2.2 hd
      | _ => exact (show False from hn).elim
  · intro E n' w' H locs cells slots ls' pc rest q ce hX hh hS hc hs h1 h2 h3
    exact vx_out (fun x hx9 => (hex x hx9).elim) hlocks h1 h2 h3 (fun u hu _ => ⟨⟨n', w', hX, by rw [hu]; exact hh⟩, hS.F hu⟩) hS.2.2 hc hs
/-! the constructor that makes an array of references needs to know of its class -/
def c_InA : p_Cc := fun G s m args c => c_In G s m args c ∧ va_AO "DuskDebts$Past" s
def c_PcA (G : q_G) (n : Nat) (t : Bool) (w : q_Mem) (As : List Value) : Array Value → State → Prop := fun a U => q_Pc G n t w As a U ∧ va_AO "DuskDebts$Past" U
theorem c_PcA_blind {G : q_G} {n : Nat} {t : Bool} {w : q_Mem} {As : List Value} : FrameBlind (c_PcA G n t w As) := by
  intro a U g mk h
  exact ⟨q_Pc_blind a U g mk h.1, h.2⟩
def c_EvA (d a b : Nat) (M : q_Mt) (n : Nat) (t : Bool) (w : q_Mem) (As : List Value) (Q : q_Po) : Prop :=
  ∀ (l : Launch) (G : q_G), l.stackTraces = false → vx_Met l M.2.1 (q_wd M) (q_rm d a b) (c_PcA G n t w As) (q_Qc G Q) (q_Xc G (fun _ _ _ => False)) a b (q_A G)
theorem c_evA {d a b : Nat} {M : q_Mt} {n : Nat} {t : Bool} {w : q_Mem} {As : List Value} {Q : q_Po} (hy : plainName M.2.1.cls = true) (hown : M.2.1.cls = q_own M.1) (hlen : (q_ent As).length ≤ M.2.2.2.1)
    (hnm : M.2.1.name = "<init>") (h : p_Ex c_InA d a b M n t (0, q_entry As M.2.2.2.1, [], w) Q (fun _ _ _ => False)) : c_EvA d a b M n t w As Q := by
  intro l G hl
  refine vx_ofW (cc := M.2.2.1) (maxL := M.2.2.2.1) (ret := M.2.2.2.2) hy rfl ?_
  intro p e s m args below meth c s₁ B hml hex hv
  obtain ⟨⟨rfl, hP, ht, hK, hF⟩, hAO⟩ := hv
  have hts0 := atoms_spec (ws := q_wd M) B.pre
  have C : q_Cx G p l s m (As.map (q_tv G)).toArray c M.1 M.2.2.1 M.2.2.2.1 := ⟨B.exec, B.bytes, hml, by rw [← hown]; exact findClass_of_methodNamed B.named, fun w hw => hts0 w (List.mem_cons_of_mem _ hw), hK, hF, hl⟩
  have hr := B.returns
  have hlocks := B.notSynchronized
  have hx := B.exec
  have hb := B.bytes
  have hent := lv_entry (As.map (q_tv G)) (n := M.2.2.2.1) (by rw [q_ent_len]; exact hlen)
  rw [lg_entry_eq]
  generalize (lg_sl (As.map (q_tv G)) ++ List.replicate (M.2.2.2.1 - (lg_sl (As.map (q_tv G))).length) Slot.unset).toArray = ls at hent ⊢
  have hlv : q_lv G ls M.2.2.2.1 (q_entry As M.2.2.2.1) := by
    refine ⟨hent.1, hent.2.1, fun i v hi => ?_⟩
    have h1 : (q_ent As)[i]? = some (some v) := by
      unfold q_entry at hi
      rw [List.getElem?_append] at hi
      split at hi
      · exact hi
      · rw [List.getElem?_replicate] at hi
        split at hi <;> cases hi
    have h2 := hent.2.2 _ (q_ent_mem (G := G) As 0 i v h1)
    rw [Nat.zero_add] at h2
    exact h2
  refine h G p l e _ s m _ below meth c _ ⟨fun mt hmt => by cases Option.some.inj (B.method.symm.trans hmt); rw [← hnm]; exact (name_of_methodNamed B.named B.method).1, hAO⟩ C (Nat.le_refl _) (Nat.le_refl _) ?_ ?_ s.heap [] 0 0 ls hP (fun h9 => by rw [Nat.add_zero]; exact ht h9) va_S.rf hlv (by rw [Nat.zero_add]; exact Nat.le_refl _) (by rw [Nat.zero_add]; exact Nat.le_refl _)
  · intro r n' w' H locs cells slots ls' pc hQ hn hh _ hS hc hs hd
    refine W.widen (k := a) (n := b) hc hs ?_
    refine vx_ret ?_
    cases r with
    | none =>
      have hn : M.2.2.2.2 = none := hn
      exact W.vret hx hb (hr.trans hn) (fun u hu hW => ⟨⟨none, n', w', rfl, hQ, by rw [hu]; exact hh⟩, hS.F hu⟩) hS.2.2 hd
    | some v =>
      cases v with
      | int v =>
        obtain ⟨ty, h1, h2⟩ := hn
        exact W.zret hx hb (hr.trans h1) h2 (fun u hu hW => ⟨⟨some (.int v), n', w', rfl, hQ, by rw [hu]; exact hh⟩, hS.F hu⟩) hS.2.2 hd
      | long v =>
        have hn : M.2.2.2.2 = some .long := hn
        exact W.lret hx hb (hr.trans hn) (fun u hu hW => ⟨⟨some (.long v), n', w', rfl, hQ, by rw [hu]; exact hh⟩, hS.F hu⟩) hS.2.2 hd
      | _ => exact (show False from hn).elim
  · intro E n' w' H locs cells slots ls' pc rest q ce hX hh hS hc hs h1 h2 h3
    exact vx_out (fun x hx9 => (hex x hx9).elim) hlocks h1 h2 h3 (fun u hu _ => ⟨⟨n', w', hX, by rw [hu]; exact hh⟩, hS.F hu⟩) hS.2.2 hc hs
section CtorA
variable {Φ : p_Cc} {d a b d' a' b' n k idx x id pc : Nat} {M M' : q_Mt} {L : List (Option Value)} {st As : List Value} {w : q_Mem} {Q Q1 : q_Po} {X : q_Xo}
theorem c_MetA {l : Launch} {G : q_G} {t : Bool} (E : c_EvA d' a' b' M' n t w As Q1) (hl : l.stackTraces = false) : Met l M'.2.1 (q_wd M') (q_rm d' a' b') (c_PcA G n t w As) (q_Qc G Q1) a' b' (q_A G) := by
  refine MetFree.mono (E l G hl) (fun _ _ hp => hp) (fun _ _ _ _ _ hk => hk) (fun a9 s o s' _ hq => ?_)
  rcases hq with h | ⟨q, h1, E9, ce, L9, ⟨⟨n', w', h2, -⟩, -⟩, -⟩
  · exact h
  · exact h2.elim
theorem p_Ex_callA {t : Bool} (hm : c_mokI M') (hn : 0 < n) (hl : Cond.methodLink (q_own M.1) idx M'.2.1 ∈ q_TB ∨ (q_own M.1, idx, M'.2.1) ∈ q_NM) (hdec : decode M.2.2.1 pc = .ok (.invokespecial idx, 3)) (hΨ : ∀ G s m args c, Φ G s m args c → va_AO "DuskDebts$Past" s) (E : c_EvA d' a' b' M' n t w [.ref id] Q1) (hid : 0 < id) (hst : (st.map fun v => v.category).sum ≤ 8)
    (hd : d' + 1 ≤ d) (ha : a' ≤ a) (hb : b' ≤ b) (ht : t = true → ∀ r n' w', Q1 r n' w' → n' = n + a')
    (kk : ∀ r n' w', Q1 r n' w' → p_Ex Φ d (a - a') (b - b') M n' t (pc + 3, L, r.toList ++ st, w') Q X) : p_Ex Φ d a b M n t (pc, L, .ref id :: st, w) Q X := by
  intro G p l e R s m args below meth c Z hΦ C h1 h2 h3 h4 H locs cells slots ls g1 g0 g2 g3 g4 g5 T hT X9
  obtain ⟨hws, hnm, hret, hy, hnL⟩ := hm
  have Cc := C
  obtain ⟨hexec, hbb, hml, hown, hts, hK, hF, hlt⟩ := C
  have hM := c_MetA (G := G) E hlt
  have g1 : q_hd G n w H := g1
  have hsz : t = true → H.size = G.2.2.1 + n + 1 := fun h9 => q_tight g1 hn hT X9 (g0 h9)
  have hgood : GoodIn q_TB (q_wd M') := q_in_good (by
    intro w9 h9
    rcases List.mem_cons.mp h9 with rfl | h9
    · exact hws _ (by simp)
    · exact h9)
  have hp : PreS s H (c_PcA G n t w [.ref id]) [.ref (G.2.2.1 + id)] := by
    refine ⟨c_PcA_blind, fun U hU hW => ⟨⟨?_, ?_, fun h9 => (by rw [hU]; exact hsz h9), q_K.warm hW hK, ?_⟩, va_AO.moved hW.alike (hΨ _ _ _ _ _ hΦ)⟩⟩
    · rw [List.map_cons, List.map_nil, q_tv_pos G hid]
    · show q_hd G n w U.heap
      rw [hU]; exact g1
    · rw [hU]; exact q_F.moved hW.alike (q_F.kept hF (fun q hq hA => g2.2.1 q hq hA))
  have hrun : va_Run p l e R s m args below meth c H locs cells slots a' b' (F0 m pc ls (.ref (G.2.2.1 + id) :: st.map (q_tv G))) (st.map (q_tv G)) (q_Qc G Q1 [Value.ref (G.2.2.1 + id)].toArray) (q_A G) := by
    rcases hl with hl | hl
    · refine va_runI (As := []) (n := 0) (index := idx) (bytes := M'.2.2.1) (maxL := M'.2.2.2.1) ⟨hexec, hbb, hml, hown, hts⟩ hM ⟨?_, hnm, hts _ (hws _ List.mem_cons_self)⟩ hp rfl rfl g3.1 rfl (by show 2 * 0 + _ ≤ 8; rw [q_cats]; omega) hdec ⟨by omega, by omega⟩
      exact callB_of 0 hts hgood (by rw [← hret]) rfl rfl (hts _ (hws _ (by simp))) (hts _ hl) hy ⟨by show d' + 1 ≤ R.frames; omega, by show 8 + (M'.2.2.2.1 + 11) + 64 * d' ≤ R.locals; omega⟩
    · refine va_runIN (As := []) (n := 0) (index := idx) (host := "DuskDebts") (bytes := M'.2.2.1) (maxL := M'.2.2.2.1) ⟨hexec, hbb, hml, hown, hts⟩ hM ⟨?_, hnm, hts _ (hws _ List.mem_cons_self)⟩ hp rfl rfl g3.1 rfl (by show 2 * 0 + _ ≤ 8; rw [q_cats]; omega) hdec ⟨by omega, by omega⟩
      exact va_cnB 0 hts hgood (by rw [← hret]) rfl rfl (hK.2.2.2.1 _ hl) (hts _ (hws _ (by simp))) hy ⟨by show d' + 1 ≤ R.frames; omega, by show 8 + (M'.2.2.2.1 + 11) + 64 * d' ≤ R.locals; omega⟩
  have goal : ∃ t2, Steps p.tables e below (T.setTop (F0 m pc ls (.ref (G.2.2.1 + id) :: st.map (q_tv G)))) t2 ∧ Z t2 := by
    obtain ⟨v, st₀, u, T', L9, e0, X', hL, e1, e2, ⟨⟨r, n', w', hr, hQ, hh⟩, hva⟩, hgo⟩ := hrun T hT X9
    cases hr
    have hS : va_S (q_A G) s.heap T'.heap (locs ++ L9) := by
      rw [e1]
      refine ⟨Nat.le_trans g2.1 (by rw [← e0]; exact hva.1), fun q hq hA => ?_, fun z hz => ?_⟩
      · rw [hva.2 q (by rw [e0]; exact Nat.lt_of_lt_of_le hq g2.1) hA, e0]
        exact g2.2.1 q hq hA
      · rcases List.mem_append.mp hz with h9 | h9
        · exact g2.2.2 z h9
        · exact hL z h9
    obtain ⟨t2, a1, b1⟩ := kk r n' w' hQ G p l e R s m args below meth c Z hΦ Cc h1 h2 h3 h4 T'.heap (locs ++ L9) (cells + a') (slots + b') ls (by rw [e1]; exact hh) (fun h9 => by have := g0 h9; have := ht h9 r n' w' hQ; omega) hS g3 (by omega) (by omega) T' rfl X'
    refine ⟨t2, hgo t2 ?_, b1⟩
    have e9 : (r.toList ++ st).map (q_tv G) = (r.map (q_tv G)).toList ++ st.map (q_tv G) := by
      cases r <;> rfl
    rw [← e9]
    exact a1
  have e8 : (.ref id :: st : List Value).map (q_tv G) = .ref (G.2.2.1 + id) :: st.map (q_tv G) := by rw [List.map_cons, q_tv_pos G hid]
  show ∃ t2, Steps p.tables e below (T.setTop (F0 m pc ls ((.ref id :: st : List Value).map (q_tv G)))) t2 ∧ Z t2
  rw [e8]
  exact goal
end CtorA
