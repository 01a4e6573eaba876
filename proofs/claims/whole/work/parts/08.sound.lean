section QStep2
variable {G : q_G} {p : Program} {l : Launch} {e : Env} {R : Room} {s : State} {m : MethodId} {args : Array Value} {below : List Frame} {meth : Method} {c : Code} {Z : State → Prop} {o nL n : Nat} {cc : ByteArray} {t : Bool} {a b : Nat} {cf : q_Cf}
theorem q_cell_obj {w : q_Mem} {id x : Nat} (h : (q_sh id).1 = x) (hx : x < 13) : q_cell G w id = .inr (x, (List.range (q_N x)).map (q_fv G w id x)) := by
  subst h
  unfold q_cell
  rw [if_pos hx, q_shlen hx]
theorem q_cell_arr {w : q_Mem} {id x : Nat} (h : (q_sh id).1 = x) (hx : ¬ x < 13) : q_cell G w id = .inl (G.2.1 x, (q_sh id).2, q_arr G w id x) := by
  subst h
  unfold q_cell
  rw [if_neg hx]
theorem q_get_ok (C : q_Cx G p l s m args c o cc nL) {x k idx : Nat} (hx : x < 13) (hk : k < q_N x) (hF : (o, idx, x, k) ∈ q_FR ∨ (o, idx, x, k) ∈ q_FN) (hdg : decode cc cf.1 = .ok (.getfield idx, 3))
    (hP : q_all (q_get n x k cf).2) :
    (q_get n x k cf).1.1 = cf.1 + 3 ∧ (q_Go G p l e R s m args below meth c Z nL n t a b (q_get n x k cf).1 → q_Go G p l e R s m args below meth c Z nL n t a b cf) := by
  obtain ⟨hexec, hb, -, hown, hts, hK, -, -⟩ := C
  obtain ⟨pc, L, st, w⟩ := cf
  revert hP
  unfold q_get
  dsimp only
  split
  · rename_i id r
    intro hP
    have hq : q_id n x id := by
      cases hc : q_ir x k
      · rw [hc] at hP; exact hP
      · rw [hc] at hP; exact hP
    obtain ⟨⟨i1, i2⟩, i3⟩ := hq
    have he : (q_ws G n w)[id - 1]? = some (G.2.2.1 + id, .inr (x, (List.range (q_N x)).map (q_fv G w id x))) := by
      rw [q_ws_get i1 i2, q_cell_obj i3 hx]
    have hv : ((List.range (q_N x)).map (q_fv G w id x))[k]? = some (q_fv G w id x k) := by
      simp [hk]
    have row : ∀ (H : Heap) (locs : List Loc) (cells slots : Nat) (ls : Array Slot) (rest : List Value), q_hd G n w H → W p l e R s m args below meth c H locs cells slots Z (F0 m (pc + 3) ls (q_fv G w id x k :: rest)) → W p l e R s m args below meth c H locs cells slots Z (F0 m pc ls (q_tv G (.ref id) :: rest)) := by
      intro H locs cells slots ls rest h1 k2
      rw [q_tv_pos G i1]
      rcases hF with hF | hF
      · exact va_get hexec hb hts (q_uw hx) hown hK.1 h1 (id - 1) he (q_cl hx) k hk (hts _ (q_FR_in _ (List.mem_map_of_mem (f := q_fw) hF))) (fun _ h9 => h9) hv hdg k2
      · exact va_getN hexec hb hts (q_uw hx) hown hK.1 h1 (id - 1) he (q_cl hx) k hk (va_Nw.use rfl (hK.2.2.1 _ (q_FN_in _ hF))) (fun _ h9 => h9) hv hdg k2
    cases hc : q_ir x k
    · refine ⟨rfl, fun kk H locs cells slots ls h1 h0 h2 h3 h4 h5 => row H locs cells slots ls _ h1 ?_⟩
      have k2 := kk H locs cells slots ls h1 h0 h2 h3 h4 h5
      have e9 : q_fv G w id x k = .int (w.1 id k) := by simp [q_fv, hc]
      rw [e9]
      exact k2
    · refine ⟨rfl, fun kk H locs cells slots ls h1 h0 h2 h3 h4 h5 => row H locs cells slots ls _ h1 ?_⟩
      have k2 := kk H locs cells slots ls h1 h0 h2 h3 h4 h5
      have e9 : q_fv G w id x k = q_tv G (.ref (w.2.2 x id k)) := by rw [q_tv_ref]; simp [q_fv, hc]
      rw [e9]
      exact k2
  · intro hP
    exact hP.elim
theorem q_map_set {N k : Nat} {f g : Nat → Value} (hk : k < N) (hg : ∀ j, j ≠ k → g j = f j) : (List.range N).map g = ((List.range N).map f).set k (g k) := by
  apply List.ext_getElem?
  intro i
  rw [List.getElem?_set]
  simp only [List.length_map, List.length_range, List.getElem?_map]
  by_cases hi : k = i
  · subst hi
    simp [hk]
  · simp only [hi, if_false]
    by_cases hin : i < N
    · simp only [List.getElem?_range hin, Option.map_some]
      rw [hg i (fun h => hi h.symm)]
    · simp [List.getElem?_eq_none (show (List.range N).length ≤ i by simp; omega)]
theorem q_ty_int {x k : Nat} (h : q_isIntTy (q_ty x k) = true) : q_ty x k = .int := by
  unfold q_isIntTy at h
  split at h
  · assumption
  · cases h
theorem q_ty_ref {x k : Nat} (h : q_isRefTy (q_ty x k) = true) : ∃ C, q_ty x k = .object C := by
  unfold q_isRefTy at h
  split at h
  · exact ⟨_, by assumption⟩
  · cases h
theorem q_put_ok (C : q_Cx G p l s m args c o cc nL) {x k idx : Nat} (hx : x < 13) (hk : k < q_N x) (hF : (o, idx, x, k) ∈ q_FR) (hfin : q_fin x k = false)
    (hty : (if q_ir x k then q_isRefTy (q_ty x k) else q_isIntTy (q_ty x k)) = true) (hdg : decode cc cf.1 = .ok (.putfield idx, 3))
    (hP : q_all (q_put n x k cf).2) :
    (q_put n x k cf).1.1 = cf.1 + 3 ∧ (q_Go G p l e R s m args below meth c Z nL n t a b (q_put n x k cf).1 → q_Go G p l e R s m args below meth c Z nL n t a b cf) := by
  obtain ⟨hexec, hb, -, hown, hts, hK, -, -⟩ := C
  obtain ⟨pc, L, st, w⟩ := cf
  revert hP
  unfold q_put
  dsimp only
  split
  · rename_i v id r
    by_cases hr : q_ir x k = true
    · rw [if_pos hr]
      intro hP
      exact hP.elim
    · rw [if_neg hr]
      rw [if_neg hr] at hty
      have hty := q_ty_int hty
      intro hP
      obtain ⟨⟨i1, i2⟩, i3⟩ : q_id n x id := hP
      refine ⟨rfl, fun kk H locs cells slots ls h1 h0 h2 h3 h4 h5 => ?_⟩
      have he : (q_ws G n w)[id - 1]? = some (G.2.2.1 + id, .inr (x, (List.range (q_N x)).map (q_fv G w id x))) := by
        rw [q_ws_get i1 i2, q_cell_obj i3 hx]
      have hnew : (q_ws G n w).set (id - 1) (G.2.2.1 + id, .inr (x, ((List.range (q_N x)).map (q_fv G w id x)).set k (.int v))) = q_ws G n (q_up w.1 id k v, w.2) := by
        refine q_ws_set (G := G) (w := w) (w' := (q_up w.1 id k v, w.2)) i1 i2 (fun j hj => q_cell_congr (fun k' => by simp [q_up, hj]) (fun _ => rfl) (fun _ _ => rfl)) ?_
        rw [q_cell_obj i3 hx, q_map_set (k := k) (f := q_fv G w id x) hk (fun j hj => by simp [q_fv, q_up, hj])]
        simp [q_fv, q_up, hr]
      dsimp only [List.map]
      rw [q_tv_pos G i1]
      refine va_put (ty := .int) (v := .int v) hexec hb hts (q_uw hx) (q_ty x) (q_tyok hx) (q_nm hx) hown hK.1 h1 (q_D G n w) h2 (id - 1) he (q_cl hx) k hk (hts _ (q_FR_in _ (List.mem_map_of_mem (f := q_fw) hF))) (fun _ h9 => h9) hfin (by rw [q_tyok hx k hk, hty]) rfl rfl (by simp [hk]) hdg (fun H1 locs1 hP1 hD1 hS1 => ?_)
      rw [hnew] at hP1
      exact kk H1 locs1 cells slots ls hP1 h0 hS1 h3 h4 h5
  · rename_i v id r
    by_cases hr : q_ir x k = true
    · rw [if_pos hr]
      rw [if_pos hr] at hty
      obtain ⟨CC, hty⟩ := q_ty_ref hty
      intro hP
      obtain ⟨⟨i1, i2⟩, i3⟩ : q_id n x id := hP
      refine ⟨rfl, fun kk H locs cells slots ls h1 h0 h2 h3 h4 h5 => ?_⟩
      have he : (q_ws G n w)[id - 1]? = some (G.2.2.1 + id, .inr (x, (List.range (q_N x)).map (q_fv G w id x))) := by
        rw [q_ws_get i1 i2, q_cell_obj i3 hx]
      have hnew : (q_ws G n w).set (id - 1) (G.2.2.1 + id, .inr (x, ((List.range (q_N x)).map (q_fv G w id x)).set k (q_tv G (.ref v)))) = q_ws G n (w.1, w.2.1, q_upR w.2.2 x id k v) := by
        refine q_ws_set (G := G) (w := w) (w' := (w.1, w.2.1, q_upR w.2.2 x id k v)) i1 i2 (fun j hj => q_cell_congr (fun _ => rfl) (fun _ => rfl) (fun y k' => by simp [q_upR, hj])) ?_
        rw [q_cell_obj i3 hx, q_map_set (k := k) (f := q_fv G w id x) hk (fun j hj => by simp [q_fv, q_upR, hj])]
        simp [q_fv, q_upR, hr, q_tv_ref]
      dsimp only [List.map]
      rw [q_tv_pos G i1]
      have hnar : narrow (.object CC) (q_tv G (.ref v)) = q_tv G (.ref v) := by
        by_cases hv : v = 0 <;> simp [q_tv, hv, narrow]
      have hfit : fits (.object CC) (q_tv G (.ref v)) = true := by
        by_cases hv : v = 0 <;> simp [q_tv, hv, fits]
      refine va_put (ty := .object CC) (v := q_tv G (.ref v)) hexec hb hts (q_uw hx) (q_ty x) (q_tyok hx) (q_nm hx) hown hK.1 h1 (q_D G n w) h2 (id - 1) he (q_cl hx) k hk (hts _ (q_FR_in _ (List.mem_map_of_mem (f := q_fw) hF))) (fun _ h9 => h9) hfin (by rw [q_tyok hx k hk, hty]) hnar hfit (by simp [hk]) hdg (fun H1 locs1 hP1 hD1 hS1 => ?_)
      rw [hnew] at hP1
      exact kk H1 locs1 cells slots ls hP1 h0 hS1 h3 h4 h5
    · rw [if_neg hr]
      intro hP
      exact hP.elim
  · intro hP
    exact hP.elim
theorem q_arr_i {w : q_Mem} {id x : Nat} (h : x = 13 ∨ x = 14 ∨ x = 16) : q_arr G w id x = .inl (w.1 id) := by
  unfold q_arr
  rw [if_neg (by omega), if_neg (by omega)]
/-- the place of an array kind among the types -/
def q_tt (x : Nat) : Nat := x - 13
theorem q_tv_bytes (G : q_G) {j : Nat} (h1 : 1000 ≤ j) (h2 : j < 2000) : q_tv G (.retAddr j) = .ref (G.2.2.2.2.1 (j - 1000)) := by
  have h3 : ¬ j < 1000 := by omega
  simp [q_tv, h3, h2]
theorem q_tv_text (G : q_G) {j : Nat} (h : j < 1000) : q_tv G (.retAddr j) = .ref (G.2.2.2.1 j) := by
  simp [q_tv, h]
theorem q_ild_ok (C : q_Cx G p l s m args c o cc nL) {x : Nat} (hx : x = 13 ∨ x = 14 ∨ x = 16) {i9 : Instr} (hi9 : i9 = if x = 14 then .iaload else .baload) (hdg : decode cc cf.1 = .ok (i9, 1))
    (hP : q_all (q_ild n x cf).2) :
    (q_ild n x cf).1.1 = cf.1 + 1 ∧ (q_Go G p l e R s m args below meth c Z nL n t a b (q_ild n x cf).1 → q_Go G p l e R s m args below meth c Z nL n t a b cf) := by
  obtain ⟨hexec, hb, -, hown, hts, hK, hF, -⟩ := C
  obtain ⟨pc, L, st, w⟩ := cf
  revert hP
  unfold q_ild
  dsimp only
  split
  · rename_i i id r
    intro hP
    obtain ⟨⟨⟨i1, i2⟩, i3⟩, i4⟩ : q_id n x id ∧ vp_in i (q_sh id).2 := hP
    refine ⟨rfl, fun kk H locs cells slots ls h1 h0 h2 h3 h4 h5 => ?_⟩
    have k2 := kk H locs cells slots ls h1 h0 h2 h3 h4 h5
    have he : (q_ws G n w)[id - 1]? = some (G.2.2.1 + id, .inl (G.2.1 x, (q_sh id).2, .inl (w.1 id))) := by
      rw [q_ws_get i1 i2, q_cell_arr i3 (by omega), q_arr_i hx]
    dsimp only [List.map] at k2 ⊢
    rw [q_tv_pos G i1]
    rcases hx with rfl | rfl | rfl
    · exact va_bald hexec hb hK.1 h1 (id - 1) 0 he rfl i4 (by rw [hdg, hi9]; rfl) k2
    · exact va_iald hexec hb hK.1 h1 (id - 1) 1 he rfl i4 (by rw [hdg, hi9]; rfl) k2
    · exact va_zald hexec hb hK.1 h1 (id - 1) 3 he rfl i4 (by rw [hdg, hi9]; rfl) k2
  · rename_i i j r
    by_cases h13 : x = 13
    · rw [if_pos h13]
      intro hP
      obtain ⟨⟨j1, j2⟩, i4⟩ : (1000 ≤ j ∧ j < 1051) ∧ vp_in i (q_SB.getD (j - 1000) []).length := hP
      refine ⟨rfl, fun kk H locs cells slots ls h1 h0 h2 h3 h4 h5 => ?_⟩
      have k2 := kk H locs cells slots ls h1 h0 h2 h3 h4 h5
      dsimp only [List.map] at k2 ⊢
      rw [q_tv_bytes G j1 (by omega)]
      subst h13
      exact va_tb hexec hb (hF.1 (j - 1000) (by omega)).2.2.2 h2 i4 rfl (by rw [hdg, hi9]; rfl) k2
    · rw [if_neg h13]
      intro hP
      exact hP.elim
  · intro hP
    exact hP.elim
theorem q_ist_ok (C : q_Cx G p l s m args c o cc nL) {x : Nat} (hx : x = 13 ∨ x = 14 ∨ x = 16) {f : Int32 → Int32} (hf : ∀ v, f v = if x = 14 then v else vp_nar (if x = 13 then .byte else .boolean) v) {i9 : Instr} (hi9 : i9 = if x = 14 then .iastore else .bastore) (hdg : decode cc cf.1 = .ok (i9, 1))
    (hP : q_all (q_ist n x f cf).2) :
    (q_ist n x f cf).1.1 = cf.1 + 1 ∧ (q_Go G p l e R s m args below meth c Z nL n t a b (q_ist n x f cf).1 → q_Go G p l e R s m args below meth c Z nL n t a b cf) := by
  obtain ⟨hexec, hb, -, hown, hts, hK, -, -⟩ := C
  obtain ⟨pc, L, st, w⟩ := cf
  revert hP
  unfold q_ist
  dsimp only
  split
  · rename_i v i id r
    intro hP
    obtain ⟨⟨⟨i1, i2⟩, i3⟩, i4⟩ : q_id n x id ∧ vp_in i (q_sh id).2 := hP
    refine ⟨rfl, fun kk H locs cells slots ls h1 h0 h2 h3 h4 h5 => ?_⟩
    have he : (q_ws G n w)[id - 1]? = some (G.2.2.1 + id, .inl (G.2.1 x, (q_sh id).2, .inl (w.1 id))) := by
      rw [q_ws_get i1 i2, q_cell_arr i3 (by omega), q_arr_i hx]
    have hnew : (q_ws G n w).set (id - 1) (G.2.2.1 + id, .inl (G.2.1 x, (q_sh id).2, .inl (upd (w.1 id) i.toNatClampNeg (f v)))) = q_ws G n (q_up w.1 id i.toNatClampNeg (f v), w.2) := by
      refine q_ws_set (G := G) (w := w) (w' := (q_up w.1 id i.toNatClampNeg (f v), w.2)) i1 i2 (fun j hj => q_cell_congr (fun k' => by simp [q_up, hj]) (fun _ => rfl) (fun _ _ => rfl)) ?_
      rw [q_cell_arr i3 (by omega), q_arr_i hx]
      have : q_up w.1 id i.toNatClampNeg (f v) id = upd (w.1 id) i.toNatClampNeg (f v) := by
        funext k
        simp [q_up, upd]
      rw [← this]
    dsimp only [List.map]
    rw [q_tv_pos G i1]
    have hf := hf v
    rcases hx with rfl | rfl | rfl
    · refine va_bast hexec hb hK.1 h1 (q_D G n w) h2 (id - 1) 0 he rfl i4 (by rw [hdg, hi9]; rfl) (fun H1 locs1 hP1 hD1 hS1 => ?_)
      have hf : f v = vp_nar .byte v := hf
      rw [← hf, hnew] at hP1
      exact kk H1 locs1 cells slots ls hP1 h0 hS1 h3 h4 h5
    · refine va_iast hexec hb hK.1 h1 (q_D G n w) h2 (id - 1) 1 he rfl i4 (by rw [hdg, hi9]; rfl) (fun H1 locs1 hP1 hD1 hS1 => ?_)
      have hf : f v = v := hf
      rw [hf] at hnew kk
      rw [hnew] at hP1
      exact kk H1 locs1 cells slots ls hP1 h0 hS1 h3 h4 h5
    · refine va_zast hexec hb hK.1 h1 (q_D G n w) h2 (id - 1) 3 he rfl i4 (by rw [hdg, hi9]; rfl) (fun H1 locs1 hP1 hD1 hS1 => ?_)
      have hf : f v = vp_nar .boolean v := hf
      rw [← hf, hnew] at hP1
      exact kk H1 locs1 cells slots ls hP1 h0 hS1 h3 h4 h5
  · intro hP
    exact hP.elim
theorem q_jld_ok (C : q_Cx G p l s m args c o cc nL) (hdg : decode cc cf.1 = .ok (.laload, 1)) (hP : q_all (q_jld n cf).2) :
    (q_jld n cf).1.1 = cf.1 + 1 ∧ (q_Go G p l e R s m args below meth c Z nL n t a b (q_jld n cf).1 → q_Go G p l e R s m args below meth c Z nL n t a b cf) := by
  obtain ⟨hexec, hb, -, hown, hts, hK, -, -⟩ := C
  obtain ⟨pc, L, st, w⟩ := cf
  revert hP
  unfold q_jld
  dsimp only
  split
  · rename_i i id r
    intro hP
    obtain ⟨⟨⟨i1, i2⟩, i3⟩, i4⟩ : q_id n 15 id ∧ vp_in i (q_sh id).2 := hP
    refine ⟨rfl, fun kk H locs cells slots ls h1 h0 h2 h3 h4 h5 => ?_⟩
    have k2 := kk H locs cells slots ls h1 h0 h2 h3 h4 h5
    have he : (q_ws G n w)[id - 1]? = some (G.2.2.1 + id, .inl (G.2.1 15, (q_sh id).2, .inr (.inl (w.2.1 id)))) := by
      rw [q_ws_get i1 i2, q_cell_arr i3 (by omega)]; rfl
    dsimp only [List.map] at k2 ⊢
    rw [q_tv_pos G i1]
    exact va_lald hexec hb hK.1 h1 (id - 1) 2 he rfl i4 hdg k2
  · intro hP
    exact hP.elim
theorem q_jst_ok (C : q_Cx G p l s m args c o cc nL) (hdg : decode cc cf.1 = .ok (.lastore, 1)) (hP : q_all (q_jst n cf).2) :
    (q_jst n cf).1.1 = cf.1 + 1 ∧ (q_Go G p l e R s m args below meth c Z nL n t a b (q_jst n cf).1 → q_Go G p l e R s m args below meth c Z nL n t a b cf) := by
  obtain ⟨hexec, hb, -, hown, hts, hK, -, -⟩ := C
  obtain ⟨pc, L, st, w⟩ := cf
  revert hP
  unfold q_jst
  dsimp only
  split
  · rename_i v i id r
    intro hP
    obtain ⟨⟨⟨i1, i2⟩, i3⟩, i4⟩ : q_id n 15 id ∧ vp_in i (q_sh id).2 := hP
    refine ⟨rfl, fun kk H locs cells slots ls h1 h0 h2 h3 h4 h5 => ?_⟩
    have he : (q_ws G n w)[id - 1]? = some (G.2.2.1 + id, .inl (G.2.1 15, (q_sh id).2, .inr (.inl (w.2.1 id)))) := by
      rw [q_ws_get i1 i2, q_cell_arr i3 (by omega)]; rfl
    have hnew : (q_ws G n w).set (id - 1) (G.2.2.1 + id, .inl (G.2.1 15, (q_sh id).2, .inr (.inl (vp_updL (w.2.1 id) i.toNatClampNeg v)))) = q_ws G n (w.1, q_up w.2.1 id i.toNatClampNeg v, w.2.2) := by
      refine q_ws_set (G := G) (w := w) (w' := (w.1, q_up w.2.1 id i.toNatClampNeg v, w.2.2)) i1 i2 (fun j hj => q_cell_congr (fun _ => rfl) (fun k' => by simp [q_up, hj]) (fun _ _ => rfl)) ?_
      rw [q_cell_arr i3 (by omega)]
      have : q_up w.2.1 id i.toNatClampNeg v id = vp_updL (w.2.1 id) i.toNatClampNeg v := by
        funext k
        simp [q_up, vp_updL]
      unfold q_arr
      rw [if_pos rfl]
      show _ = _
      rw [← this]
    dsimp only [List.map]
    rw [q_tv_pos G i1]
    refine va_last hexec hb hK.1 h1 (q_D G n w) h2 (id - 1) 2 he rfl i4 hdg (fun H1 locs1 hP1 hD1 hS1 => ?_)
    rw [hnew] at hP1
    exact kk H1 locs1 cells slots ls hP1 h0 hS1 h3 h4 h5
  · intro hP
    exact hP.elim
theorem q_rld_ok (C : q_Cx G p l s m args c o cc nL) (hdg : decode cc cf.1 = .ok (.aaload, 1)) (hP : q_all (q_rld n cf).2) :
    (q_rld n cf).1.1 = cf.1 + 1 ∧ (q_Go G p l e R s m args below meth c Z nL n t a b (q_rld n cf).1 → q_Go G p l e R s m args below meth c Z nL n t a b cf) := by
  obtain ⟨hexec, hb, -, hown, hts, hK, -, -⟩ := C
  obtain ⟨pc, L, st, w⟩ := cf
  revert hP
  unfold q_rld
  dsimp only
  split
  · rename_i i id r
    intro hP
    obtain ⟨⟨⟨i1, i2⟩, i3⟩, i4⟩ : q_id n 17 id ∧ vp_in i (q_sh id).2 := hP
    refine ⟨rfl, fun kk H locs cells slots ls h1 h0 h2 h3 h4 h5 => ?_⟩
    have k2 := kk H locs cells slots ls h1 h0 h2 h3 h4 h5
    have he : (q_ws G n w)[id - 1]? = some (G.2.2.1 + id, .inl (G.2.1 17, (q_sh id).2, .inr (.inr (.inr (.inr (fun j => q_rf G (w.2.2 17 id j))))))) := by
      rw [q_ws_get i1 i2, q_cell_arr i3 (by omega)]; rfl
    dsimp only [List.map] at k2 ⊢
    rw [q_tv_ref G] at k2
    rw [q_tv_pos G i1]
    exact va_aldq hexec hb hK.1 h1 (id - 1) 4 he rfl i4 hdg k2
  · intro hP
    exact hP.elim
theorem q_len_ok (C : q_Cx G p l s m args c o cc nL) (hdg : decode cc cf.1 = .ok (.arraylength, 1)) (hP : q_all (q_len n cf).2) :
    (q_len n cf).1.1 = cf.1 + 1 ∧ (q_Go G p l e R s m args below meth c Z nL n t a b (q_len n cf).1 → q_Go G p l e R s m args below meth c Z nL n t a b cf) := by
  obtain ⟨hexec, hb, -, hown, hts, hK, hF, -⟩ := C
  obtain ⟨pc, L, st, w⟩ := cf
  revert hP
  unfold q_len
  dsimp only
  split
  · rename_i id r
    intro hP
    obtain ⟨⟨i1, i2⟩, i3, i4⟩ : (0 < id ∧ id ≤ n) ∧ 13 ≤ (q_sh id).1 ∧ (q_sh id).1 < 18 := hP
    refine ⟨rfl, fun kk H locs cells slots ls h1 h0 h2 h3 h4 h5 => ?_⟩
    have k2 := kk H locs cells slots ls h1 h0 h2 h3 h4 h5
    have he : (q_ws G n w)[id - 1]? = some (G.2.2.1 + id, .inl (G.2.1 (q_sh id).1, (q_sh id).2, q_arr G w id (q_sh id).1)) := by
      rw [q_ws_get i1 i2, q_cell_arr rfl (by omega)]
    dsimp only [List.map] at k2 ⊢
    rw [q_tv_pos G i1]
    have hk : (q_sh id).1 = 13 ∨ (q_sh id).1 = 14 ∨ (q_sh id).1 = 15 ∨ (q_sh id).1 = 16 ∨ (q_sh id).1 = 17 := by omega
    rcases hk with hk | hk | hk | hk | hk
    · exact va_alen hexec hb hK.1 h1 (id - 1) 0 he (by rw [hk]; rfl) rfl hdg k2
    · exact va_alen hexec hb hK.1 h1 (id - 1) 1 he (by rw [hk]; rfl) rfl hdg k2
    · exact va_alen hexec hb hK.1 h1 (id - 1) 2 he (by rw [hk]; rfl) rfl hdg k2
    · exact va_alen hexec hb hK.1 h1 (id - 1) 3 he (by rw [hk]; rfl) rfl hdg k2
    · exact va_alen hexec hb hK.1 h1 (id - 1) 4 he (by rw [hk]; rfl) rfl hdg k2
  · rename_i j r
    intro hP
    obtain ⟨j1, j2⟩ : 1000 ≤ j ∧ j < 1051 := hP
    refine ⟨rfl, fun kk H locs cells slots ls h1 h0 h2 h3 h4 h5 => ?_⟩
    have k2 := kk H locs cells slots ls h1 h0 h2 h3 h4 h5
    dsimp only [List.map] at k2 ⊢
    rw [q_tv_bytes G j1 (by omega)]
    exact va_tlen hexec hb (hF.1 (j - 1000) (by omega)).2.2.2 h2 rfl hdg k2
  · intro hP
    exact hP.elim
theorem q_gtx_ok (C : q_Cx G p l s m args c o cc nL) {k idx : Nat} (hT : (o, idx, k) ∈ q_TF) (hdg : decode cc cf.1 = .ok (.getfield idx, 3)) (hP : q_all (q_gtx k cf).2) :
    (q_gtx k cf).1.1 = cf.1 + 3 ∧ (q_Go G p l e R s m args below meth c Z nL n t a b (q_gtx k cf).1 → q_Go G p l e R s m args below meth c Z nL n t a b cf) := by
  obtain ⟨hexec, hb, -, hown, hts, hK, hF, -⟩ := C
  obtain ⟨pc, L, st, w⟩ := cf
  revert hP
  unfold q_gtx
  dsimp only
  split
  · rename_i j r
    simp only [q_TF, List.mem_cons, List.mem_nil_iff, or_false, Prod.mk.injEq] at hT
    rcases hT with ⟨rfl, rfl, rfl⟩ | ⟨rfl, rfl, rfl⟩
    · rw [if_pos rfl]
      intro hP
      have hP : j < 51 := hP
      refine ⟨rfl, fun kk H locs cells slots ls h1 h0 h2 h3 h4 h5 => ?_⟩
      have k2 := kk H locs cells slots ls h1 h0 h2 h3 h4 h5
      dsimp only [List.map] at k2 ⊢
      rw [q_tv_bytes G (by omega) (by omega), Nat.add_sub_cancel_left] at k2
      rw [q_tv_text G (by omega)]
      exact vk_getf (own := "java/lang/String") hexec hb (hF.1 j hP).2.2.1 h2 hown (hts _ (q_TF_in _ List.mem_cons_self)) (fun _ h9 => h9) hdg k2
    · rw [if_neg (by decide)]
      intro hP
      have hP : j < 51 := hP
      refine ⟨rfl, fun kk H locs cells slots ls h1 h0 h2 h3 h4 h5 => ?_⟩
      have k2 := kk H locs cells slots ls h1 h0 h2 h3 h4 h5
      dsimp only [List.map] at k2 ⊢
      rw [q_tv_text G (by omega)]
      exact vk_getf (own := "java/lang/String") hexec hb (hF.1 j hP).2.1 h2 hown (hts _ (q_TF_in _ (List.mem_cons_of_mem _ List.mem_cons_self))) (fun _ h9 => h9) hdg k2
  · intro hP
    exact hP.elim
end QStep2
