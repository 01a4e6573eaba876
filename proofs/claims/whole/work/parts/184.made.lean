/-- nothing is there behind cell n -/
def c_Z (n : Nat) (w : q_Mem) : Prop := ∀ i, n < i → (∀ j, w.1 i j = 0) ∧ (∀ j, w.2.1 i j = 0) ∧ ∀ y j, w.2.2 y i j = 0
theorem c_Z.le {n n' : Nat} {w : q_Mem} (h : c_Z n w) (hn : n ≤ n') : c_Z n' w := fun i hi => h i (by omega)
theorem c_Z.pt {n x id k v : Nat} {w : q_Mem} (h : c_Z n w) (hn : id ≤ n) : c_Z n (c_pt w x id k v) := fun i hi => ⟨(h i hi).1, (h i hi).2.1, fun y j => by
  have h1 : i ≠ id := by omega
  simp [c_pt, q_upR, h1, (h i hi).2.2 y j]⟩
theorem c_Z.wI {n id k : Nat} {v : Int32} {w : q_Mem} (h : c_Z n w) (hn : id ≤ n) : c_Z n (g_wI w id k v) := fun i hi => ⟨fun j => by
  have h1 : i ≠ id := by omega
  simp [g_wI, q_up, h1, (h i hi).1 j], (h i hi).2.1, (h i hi).2.2⟩
theorem g_same {w : q_Mem} {id k : Nat} {v : Int32} (h : w.1 id k = v) : g_wI w id k v = w := by
  obtain ⟨w1, w2⟩ := w
  unfold g_wI
  refine Prod.ext ?_ rfl
  funext i j
  show (if i = id then _ else _) = _
  by_cases h1 : i = id
  · subst h1
    by_cases h2 : j = k
    · subst h2; simp [← h]
    · simp [h2]
  · simp [h1]
theorem gt_putR {n : Nat} {is : List q_RI} {pc : Nat} {L : List (Option Value)} {st : List Value} {w : q_Mem} {acc : List Prop} {R : q_Cf × List Prop} {i id c1 c2 r : Nat} (hq : q_ir c1 c2 = true) (h : g_tn n is (pc + 3) L st (c_pt w c1 id c2 r) (acc ++ [q_id n c1 id]) R) : g_tn n ((.putfield i, 3, c1, c2) :: is) pc L (.ref r :: .ref id :: st) w acc R := by
  refine q_rc (cf1 := (pc + 3, L, st, c_pt w c1 id c2 r)) (ps1 := [q_id n c1 id]) ?_ h
  show q_put n c1 c2 (pc, L, .ref r :: .ref id :: st, w) = _
  unfold q_put
  dsimp only
  rw [hq]
  rfl
theorem pg_blk {Φ : p_Cc} {n : Nat} {t : Bool} {d a b pc : Nat} {M : q_Mt} {L : List (Option Value)} {st : List Value} {w : q_Mem} {Q : q_Po} {X : q_Xo} (is : List q_RI) (pc' : Nat) (L' : List (Option Value)) (st' : List Value) (w' : q_Mem) (ps : List Prop) (hr : q_chk M.1 M.2.2.2.1 M.2.2.1 pc is = true) (he : g_tn n is pc L st w [] ((pc', L', st', w'), ps)) (hP : q_all ps) (k : p_Ex Φ d a b M n t (pc', L', st', w') Q X) : p_Ex Φ d a b M n t (pc, L, st, w) Q X := by
  unfold g_tn q_rn at he
  rw [List.nil_append] at he
  exact p_Ex_blk is (pc', L', st', w') ps hr he hP k
theorem c_emit {n d o i : Nat} {t : Bool} {w : q_Mem} {c : Int32} (ho : 0 < o) (hn : o + 3 ≤ n) (hs0 : (q_sh o).1 = 5) (hs1 : q_sh (o + 1) = (14, 150)) (hr : w.2.2 5 o 0 = o + 1) (hl : w.1 o 1 = nI i) (hi : i < 150) : g_Ev n t (d + 1) mX5_emit w [.ref o, .int c] (g_V fun u => u = g_wI (g_wI w (o + 1) i c) o 1 (nI (i + 1))) := by
  apply geX5_emit
  unfold gvX5_emit_0
  have q1 : q_id n 5 o := ⟨⟨ho, by omega⟩, hs0⟩
  have q2 : q_id n 14 (o + 1) := ⟨⟨by omega, by omega⟩, by rw [hs1]⟩
  have e1 : (nI i).toNatClampNeg = i := nI_clamp (by omega)
  rw [hl]
  refine ⟨q1, fun h => absurd (show nI 150 ≤ nI i from h) (nI_ge (by omega) (by omega)), fun _ => ?_⟩
  refine ⟨q1, hr, q1, q2, ?_, ?_⟩
  · rw [hs1]; exact vp_in_nI (by omega) (by decide)
  intro w1 h1
  have e2 : w1.1 o 1 = nI i := by
    have h2 : ¬ o = o + 1 := by omega
    rw [h1]; simp [g_wI, q_up, h2, hl]
  refine ⟨q1, q1, ?_⟩
  intro w2 h2
  refine ⟨rfl, ?_⟩
  rw [h2, e2, h1, e1, nI_1]
theorem c_plain {n d o : Nat} {t : Bool} {w : q_Mem} (ho : 0 < o) (hn : o + 3 ≤ n) (hs0 : (q_sh o).1 = 5) (hs1 : q_sh (o + 1) = (14, 150)) (hr : w.2.2 5 o 0 = o + 1) : g_Ev n t (d + 2) mX5_setPlain w [.ref o] (g_V fun u => u = g_wI (g_wI (g_wI (g_wI (g_wI (g_wI (g_wI (g_wI (g_wI (g_wI (g_wI w o 1 0) (o + 1) 0 (-1)) o 1 1) (o + 1) 1 (-2)) o 1 2) (o + 1) 2 (-10)) o 1 3) (o + 1) 3 16) o 1 4) (o + 1) 4 (-11)) o 1 5) := by
  apply geX5_setPlain
  unfold gvX5_setPlain_0
  have q1 : q_id n 5 o := ⟨⟨ho, by omega⟩, hs0⟩
  refine ⟨q1, ?_⟩
  intro w1 h1
  refine ⟨q1, g_mono (c_emit (i := 0) ho hn hs0 hs1 (by rw [h1]; exact hr) (by rw [h1]; simp [g_wI, q_up]; rfl) (by omega)) (g_V_of (fun u hu => ⟨rfl, ?_⟩))⟩
  refine ⟨q1, g_mono (c_emit (i := 1) ho hn hs0 hs1 (by rw [hu, h1]; exact hr) (by rw [hu]; simp [g_wI, q_up]) (by omega)) (g_V_of (fun u2 hu2 => ⟨rfl, ?_⟩))⟩
  refine ⟨q1, g_mono (c_emit (i := 2) ho hn hs0 hs1 (by rw [hu2, hu, h1]; exact hr) (by rw [hu2]; simp [g_wI, q_up]) (by omega)) (g_V_of (fun u3 hu3 => ⟨rfl, ?_⟩))⟩
  refine ⟨q1, g_mono (c_emit (i := 3) ho hn hs0 hs1 (by rw [hu3, hu2, hu, h1]; exact hr) (by rw [hu3]; simp [g_wI, q_up]) (by omega)) (g_V_of (fun u4 hu4 => ⟨rfl, ?_⟩))⟩
  refine ⟨q1, g_mono (c_emit (i := 4) ho hn hs0 hs1 (by rw [hu4, hu3, hu2, hu, h1]; exact hr) (by rw [hu4]; simp [g_wI, q_up]) (by omega)) (g_V_of (fun u5 hu5 => ⟨rfl, ?_⟩))⟩
  refine ⟨rfl, ?_⟩
  rw [hu5, hu4, hu3, hu2, hu, h1]
  rfl
theorem p_Ex_anew {Φ : p_Cc} {d a b n N pc idx : Nat} {M : q_Mt} {L : List (Option Value)} {st : List Value} {w : q_Mem} {Q : q_Po} {X : q_Xo} {v : Int32} (hn : 0 < n) (hv : ¬ v < 0) (hN : v.toNatClampNeg = N) (hb : N ≤ 4000) (hsh : q_sh (n + 1) = (17, N)) (hz : ∀ j, w.2.2 17 (n + 1) j = 0) (hdec : decode M.2.2.1 pc = .ok (.anewarray idx, 3))
    (hΨ : ∀ G s m args c, Φ G s m args c → va_AO "DuskDebts$Past" s) (hws : ∀ w ∈ [Cond.classLink (q_own M.1) idx "DuskDebts$Past"], w ∈ q_TB)
    (k9 : p_Ex Φ d a b M (n + 1) true (pc + 3, L, .ref (n + 1) :: st, w) Q X) : p_Ex Φ d (a + 1) (b + N) M n true (pc, L, .int v :: st, w) Q X := by
  intro G p l e R s m args below meth c Z hΦ C h1 h2 h3 h4 H locs cells slots ls g1 g0 g2 g3 g4 g5 T hT X9
  obtain ⟨hexec, hbb, hml, hown, hts, hK, hF, hlt⟩ := id C
  have hsz : H.size = G.2.2.1 + n + 1 := q_tight g1 hn hT X9 (g0 rfl)
  subst hN
  have goal : W p l e R s m args below meth c H locs cells slots Z (F0 m pc ls (.int v :: st.map (q_tv G))) := by
    refine W.anew (g := F0 m pc ls (.int v :: st.map (q_tv G))) hexec hbb hown (hts _ (hws _ List.mem_cons_self)) (va_AO.use (hΨ _ _ _ _ _ hΦ)) rfl hdec rfl hv (by omega) (by omega) (by omega) (fun cA kA comp f1 f2 f3 f4 => ?_)
    generalize hH1 : H.push ({ cls := cA, slots := Array.replicate v.toNatClampNeg .null, vm := .none } : Cell) = H1
    have z1 : H1.size = H.size + 1 := by rw [← hH1, Array.size_push]
    have e1 : H1[H.size]? = some (arrV cA v.toNatClampNeg (fun _ => .null)) := by rw [← hH1, Array.getElem?_push_size, ← arrV_new]
    have o1 : ∀ q : Nat, q < H.size → H1[q]? = H[q]? := fun q hq => by rw [← hH1, Array.getElem?_push, if_neg (Nat.ne_of_lt hq)]
    have hcA : cA = G.2.1 17 := Option.some.inj ((show s.vm.findClass "[LDuskDebts$Past;" = some cA from f1).symm.trans (hK.2.2.2.2.2.2 (17, "[LDuskDebts$Past;") (by simp [q_AN])))
    have hnew : va_at G.1 vwCl (G.2.2.1 + (n + 1), q_cell G w (n + 1)) H1 := by
      have hc : q_cell G w (n + 1) = .inl (G.2.1 17, v.toNatClampNeg, q_arr G w (n + 1) 17) := by
        rw [q_cell_arr (x := 17) (by rw [hsh]) (by omega), hsh]
      rw [hc]
      show H1[G.2.2.1 + (n + 1)]? = some (vp_cell (G.2.1 17) (v.toNatClampNeg, q_arr G w (n + 1) 17))
      have e2 : q_arr G w (n + 1) 17 = .inr (.inr (.inr (.inr (fun _ => none)))) := by
        have e3 : (fun j => q_rf G (w.2.2 17 (n + 1) j)) = fun _ => none := funext (fun j => by rw [hz j]; rfl)
        have e0 : q_arr G w (n + 1) 17 = .inr (.inr (.inr (.inr (fun j => q_rf G (w.2.2 17 (n + 1) j))))) := rfl
        rw [e0, e3]
      rw [e2, show G.2.2.1 + (n + 1) = H.size by omega, e1, hcA]
      rfl
    have k2 := k9 G p l e R s m args below meth c Z hΦ C h1 h2 h3 h4 H1 locs (cells + 1) (slots + v.toNatClampNeg) ls (q_hd.push g1 (fun q hq => o1 q (by omega)) hnew) (fun _ => by have := g0 rfl; omega) (q_S_grow g2 hsz (by omega) (fun q hq => o1 q (by omega))) g3 (by omega) (by omega)
    have e9 : q_tv G (.ref (n + 1)) = .ref H.size := by rw [q_tv_pos G (by omega), hsz]; rfl
    have k3 : W p l e R s m args below meth c H1 locs (cells + 1) (slots + v.toNatClampNeg) Z (F0 m (pc + 3) ls (q_tv G (.ref (n + 1)) :: st.map (q_tv G))) := k2
    rw [e9] at k3
    exact k3
  exact goal T hT X9
theorem p_Ex_aast {Φ : p_Cc} {d a b n pc id v : Nat} {t : Bool} {M : q_Mt} {L : List (Option Value)} {st : List Value} {w : q_Mem} {Q : q_Po} {X : q_Xo} {i : Int32} (hid : q_id n 17 id) (hv : q_id n 8 v) (hi : vp_in i (q_sh id).2) (hdec : decode M.2.2.1 pc = .ok (.aastore, 1))
    (k9 : p_Ex Φ d a b M n t (pc + 1, L, st, c_pt w 17 id i.toNatClampNeg v) Q X) : p_Ex Φ d a b M n t (pc, L, .ref v :: .int i :: .ref id :: st, w) Q X := by
  intro G p l e R s m args below meth c Z hΦ C h1 h2 h3 h4 H locs cells slots ls g1 g0 g2 g3 g4 g5
  obtain ⟨hexec, hbb, hml, hown, hts, hK, hF, hlt⟩ := (fun y => y) C
  obtain ⟨⟨i1, i2⟩, i3⟩ := hid
  obtain ⟨⟨j1, j2⟩, j3⟩ := hv
  have ha : (q_ws G n w)[id - 1]? = some (G.2.2.1 + id, .inl (G.2.1 17, (q_sh id).2, .inr (.inr (.inr (.inr (fun j => q_rf G (w.2.2 17 id j))))))) := by
    rw [q_ws_get i1 i2, q_cell_arr i3 (by omega)]
    rfl
  have hvc : (q_ws G n w)[v - 1]? = some (G.2.2.1 + v, .inr (8, (List.range (q_N 8)).map (q_fv G w v 8))) := by
    rw [q_ws_get j1 j2, q_cell_obj j3 (by omega)]
  have hnew : (q_ws G n w).set (id - 1) (G.2.2.1 + id, .inl (G.2.1 17, (q_sh id).2, .inr (.inr (.inr (.inr (va_up (fun j => q_rf G (w.2.2 17 id j)) i.toNatClampNeg (some (G.2.2.1 + v)))))))) = q_ws G n (c_pt w 17 id i.toNatClampNeg v) := by
    refine q_ws_set (G := G) (w := w) (w' := c_pt w 17 id i.toNatClampNeg v) i1 i2 (fun j hj => q_cell_congr (fun _ => rfl) (fun _ => rfl) (fun y k' => by simp [c_pt, q_upR, hj])) ?_
    rw [q_cell_arr i3 (by omega)]
    have e0 : q_arr G (c_pt w 17 id i.toNatClampNeg v) id 17 = .inr (.inr (.inr (.inr (fun j => q_rf G ((c_pt w 17 id i.toNatClampNeg v).2.2 17 id j))))) := rfl
    have e3 : (fun j => q_rf G ((c_pt w 17 id i.toNatClampNeg v).2.2 17 id j)) = va_up (fun j => q_rf G (w.2.2 17 id j)) i.toNatClampNeg (some (G.2.2.1 + v)) := by
      funext j
      have hv0 : ¬ v = 0 := by omega
      by_cases hj : j = i.toNatClampNeg
      · simp [c_pt, q_upR, va_up, hj, q_rf, hv0]
      · simp [c_pt, q_upR, va_up, hj]
    rw [e0, e3]
  have goal : W p l e R s m args below meth c H locs cells slots Z (F0 m pc ls (.ref (G.2.2.1 + v) :: .int i :: .ref (G.2.2.1 + id) :: st.map (q_tv G))) := by
    refine va_astq hexec hbb hK.1 g1 (q_D G n w) g2 (id - 1) 4 (v - 1) 8 ha (by rfl) hvc (q_cl (by omega)) hi hdec (fun H1 locs1 hP1 hD1 hS1 => ?_)
    rw [hnew] at hP1
    exact k9 G p l e R s m args below meth c Z hΦ C h1 h2 h3 h4 H1 locs1 cells slots ls hP1 g0 hS1 g3 g4 g5
  show W p l e R s m args below meth c H locs cells slots Z (F0 m pc ls ((.ref v :: .int i :: .ref id :: st : List Value).map (q_tv G)))
  rw [List.map_cons, List.map_cons, List.map_cons, q_tv_pos G j1, q_tv_pos G i1]
  exact goal
theorem c_AW13 : Cond.arrayClass (newarray.typeOf (q_aty 13)) ∈ q_TB := (q_inTB [182] (by decide +kernel) (by decide +kernel) : ∀ w ∈ [Cond.arrayClass (newarray.typeOf (q_aty 13))], w ∈ q_TB) _ List.mem_cons_self
theorem c_AW14 : Cond.arrayClass (newarray.typeOf (q_aty 14)) ∈ q_TB := (q_inTB [277] (by decide +kernel) (by decide +kernel) : ∀ w ∈ [Cond.arrayClass (newarray.typeOf (q_aty 14))], w ∈ q_TB) _ List.mem_cons_self
theorem c_AW15 : Cond.arrayClass (newarray.typeOf (q_aty 15)) ∈ q_TB := (q_inTB [454] (by decide +kernel) (by decide +kernel) : ∀ w ∈ [Cond.arrayClass (newarray.typeOf (q_aty 15))], w ∈ q_TB) _ List.mem_cons_self
theorem c_AW16 : Cond.arrayClass (newarray.typeOf (q_aty 16)) ∈ q_TB := (q_inTB [1808] (by decide +kernel) (by decide +kernel) : ∀ w ∈ [Cond.arrayClass (newarray.typeOf (q_aty 16))], w ∈ q_TB) _ List.mem_cons_self
theorem c_PW : ∀ w ∈ [Cond.classLink (q_own 11) 60 "DuskDebts$Past"], w ∈ q_TB := q_inTB [378] (by decide +kernel) (by decide +kernel)
theorem c_OW0 : ∀ w ∈ [Cond.methodLink (q_own 0) 1 Lib.objectInit, Cond.instanceMethod Lib.objectInit, Cond.code Lib.objectInit ⟨#[0xb1]⟩ 1 none], w ∈ q_TB := q_inTB [460, 152, 153] (by decide +kernel) (by decide +kernel)
theorem c_IW0 : c_mokI mX0_init := ⟨q_inTB [458, 130, 459] (by decide +kernel) (by decide +kernel), rfl, rfl, by decide +kernel, by decide⟩
theorem c_NW11_92 : ∀ w ∈ [Cond.classLink (q_own 11) 92 (q_own 0), Cond.instantiable (q_own 0) (q_N 0), Cond.initialized (q_own 0)], w ∈ q_TB := q_inTB [455, 456, 130] (by decide +kernel) (by decide +kernel)
theorem c_OW1 : ∀ w ∈ [Cond.methodLink (q_own 1) 3 Lib.objectInit, Cond.instanceMethod Lib.objectInit, Cond.code Lib.objectInit ⟨#[0xb1]⟩ 1 none], w ∈ q_TB := q_inTB [310, 152, 153] (by decide +kernel) (by decide +kernel)
theorem c_IW1 : c_mokI mX1_init := ⟨q_inTB [308, 123, 309] (by decide +kernel) (by decide +kernel), rfl, rfl, by decide +kernel, by decide⟩
theorem c_NW11_36 : ∀ w ∈ [Cond.classLink (q_own 11) 36 (q_own 1), Cond.instantiable (q_own 1) (q_N 1), Cond.initialized (q_own 1)], w ∈ q_TB := q_inTB [305, 306, 123] (by decide +kernel) (by decide +kernel)
theorem c_OW2 : ∀ w ∈ [Cond.methodLink (q_own 2) 3 Lib.objectInit, Cond.instanceMethod Lib.objectInit, Cond.code Lib.objectInit ⟨#[0xb1]⟩ 1 none], w ∈ q_TB := q_inTB [188, 152, 153] (by decide +kernel) (by decide +kernel)
theorem c_IW2 : c_mokI mX2_init := ⟨q_inTB [186, 121, 187] (by decide +kernel) (by decide +kernel), rfl, rfl, by decide +kernel, by decide⟩
theorem c_NW11_16 : ∀ w ∈ [Cond.classLink (q_own 11) 16 (q_own 2), Cond.instantiable (q_own 2) (q_N 2), Cond.initialized (q_own 2)], w ∈ q_TB := q_inTB [183, 184, 121] (by decide +kernel) (by decide +kernel)
theorem c_OW3 : ∀ w ∈ [Cond.methodLink (q_own 3) 3 Lib.objectInit, Cond.instanceMethod Lib.objectInit, Cond.code Lib.objectInit ⟨#[0xb1]⟩ 1 none], w ∈ q_TB := q_inTB [417, 152, 153] (by decide +kernel) (by decide +kernel)
theorem c_IW3 : c_mokI mX3_init := ⟨q_inTB [415, 128, 416] (by decide +kernel) (by decide +kernel), rfl, rfl, by decide +kernel, by decide⟩
theorem c_NW11_78 : ∀ w ∈ [Cond.classLink (q_own 11) 78 (q_own 3), Cond.instantiable (q_own 3) (q_N 3), Cond.initialized (q_own 3)], w ∈ q_TB := q_inTB [412, 413, 128] (by decide +kernel) (by decide +kernel)
theorem c_OW4 : ∀ w ∈ [Cond.methodLink (q_own 4) 3 Lib.objectInit, Cond.instanceMethod Lib.objectInit, Cond.code Lib.objectInit ⟨#[0xb1]⟩ 1 none], w ∈ q_TB := q_inTB [397, 152, 153] (by decide +kernel) (by decide +kernel)
theorem c_IW4 : c_mokI mX4_init := ⟨q_inTB [395, 127, 396] (by decide +kernel) (by decide +kernel), rfl, rfl, by decide +kernel, by decide⟩
theorem c_NW11_71 : ∀ w ∈ [Cond.classLink (q_own 11) 71 (q_own 4), Cond.instantiable (q_own 4) (q_N 4), Cond.initialized (q_own 4)], w ∈ q_TB := q_inTB [392, 393, 127] (by decide +kernel) (by decide +kernel)
theorem c_OW5 : ∀ w ∈ [Cond.methodLink (q_own 5) 3 Lib.objectInit, Cond.instanceMethod Lib.objectInit, Cond.code Lib.objectInit ⟨#[0xb1]⟩ 1 none], w ∈ q_TB := q_inTB [283, 152, 153] (by decide +kernel) (by decide +kernel)
theorem c_IW5 : c_mokI mX5_init := ⟨q_inTB [281, 122, 282] (by decide +kernel) (by decide +kernel), rfl, rfl, by decide +kernel, by decide⟩
theorem c_NW11_26 : ∀ w ∈ [Cond.classLink (q_own 11) 26 (q_own 5), Cond.instantiable (q_own 5) (q_N 5), Cond.initialized (q_own 5)], w ∈ q_TB := q_inTB [278, 279, 122] (by decide +kernel) (by decide +kernel)
theorem c_OW6 : ∀ w ∈ [Cond.methodLink (q_own 6) 5 Lib.objectInit, Cond.instanceMethod Lib.objectInit, Cond.code Lib.objectInit ⟨#[0xb1]⟩ 1 none], w ∈ q_TB := q_inTB [372, 152, 153] (by decide +kernel) (by decide +kernel)
theorem c_IW6 : c_mokI mX6_init := ⟨q_inTB [370, 125, 371] (by decide +kernel) (by decide +kernel), rfl, rfl, by decide +kernel, by decide⟩
theorem c_NW11_53 : ∀ w ∈ [Cond.classLink (q_own 11) 53 (q_own 6), Cond.instantiable (q_own 6) (q_N 6), Cond.initialized (q_own 6)], w ∈ q_TB := q_inTB [367, 368, 125] (by decide +kernel) (by decide +kernel)
theorem c_NW4_9 : ∀ w ∈ [Cond.classLink (q_own 4) 9 (q_own 6), Cond.instantiable (q_own 6) (q_N 6), Cond.initialized (q_own 6)], w ∈ q_TB := q_inTB [398, 368, 125] (by decide +kernel) (by decide +kernel)
theorem c_OW7 : ∀ w ∈ [Cond.methodLink (q_own 7) 3 Lib.objectInit, Cond.instanceMethod Lib.objectInit, Cond.code Lib.objectInit ⟨#[0xb1]⟩ 1 none], w ∈ q_TB := q_inTB [438, 152, 153] (by decide +kernel) (by decide +kernel)
theorem c_IW7 : c_mokI mX7_init := ⟨q_inTB [436, 129, 437] (by decide +kernel) (by decide +kernel), rfl, rfl, by decide +kernel, by decide⟩
theorem c_NW11_85 : ∀ w ∈ [Cond.classLink (q_own 11) 85 (q_own 7), Cond.instantiable (q_own 7) (q_N 7), Cond.initialized (q_own 7)], w ∈ q_TB := q_inTB [433, 434, 129] (by decide +kernel) (by decide +kernel)
theorem c_OW8 : ∀ w ∈ [Cond.methodLink (q_own 8) 3 Lib.objectInit, Cond.instanceMethod Lib.objectInit, Cond.code Lib.objectInit ⟨#[0xb1]⟩ 1 none], w ∈ q_TB := q_inTB [383, 152, 153] (by decide +kernel) (by decide +kernel)
theorem c_IW8 : c_mokI mX8_init := ⟨q_inTB [381, 126, 382] (by decide +kernel) (by decide +kernel), rfl, rfl, by decide +kernel, by decide⟩
theorem c_NW11_60 : ∀ w ∈ [Cond.classLink (q_own 11) 60 (q_own 8), Cond.instantiable (q_own 8) (q_N 8), Cond.initialized (q_own 8)], w ∈ q_TB := q_inTB [378, 379, 126] (by decide +kernel) (by decide +kernel)
theorem c_OW9 : ∀ w ∈ [Cond.methodLink (q_own 9) 3 Lib.objectInit, Cond.instanceMethod Lib.objectInit, Cond.code Lib.objectInit ⟨#[0xb1]⟩ 1 none], w ∈ q_TB := q_inTB [342, 152, 153] (by decide +kernel) (by decide +kernel)
theorem c_IW9 : c_mokI mX9_init := ⟨q_inTB [340, 124, 341] (by decide +kernel) (by decide +kernel), rfl, rfl, by decide +kernel, by decide⟩
theorem c_NW11_46 : ∀ w ∈ [Cond.classLink (q_own 11) 46 (q_own 9), Cond.instantiable (q_own 9) (q_N 9), Cond.initialized (q_own 9)], w ∈ q_TB := q_inTB [337, 338, 124] (by decide +kernel) (by decide +kernel)
theorem c_OW10 : ∀ w ∈ [Cond.methodLink (q_own 10) 3 Lib.objectInit, Cond.instanceMethod Lib.objectInit, Cond.code Lib.objectInit ⟨#[0xb1]⟩ 1 none], w ∈ q_TB := q_inTB [159, 152, 153] (by decide +kernel) (by decide +kernel)
theorem c_IW10 : c_mokI mX10_init := ⟨q_inTB [157, 120, 158] (by decide +kernel) (by decide +kernel), rfl, rfl, by decide +kernel, by decide⟩
theorem c_NW11_7 : ∀ w ∈ [Cond.classLink (q_own 11) 7 (q_own 10), Cond.instantiable (q_own 10) (q_N 10), Cond.initialized (q_own 10)], w ∈ q_TB := q_inTB [154, 155, 120] (by decide +kernel) (by decide +kernel)
theorem c_OW11 : ∀ w ∈ [Cond.methodLink (q_own 11) 1 Lib.objectInit, Cond.instanceMethod Lib.objectInit, Cond.code Lib.objectInit ⟨#[0xb1]⟩ 1 none], w ∈ q_TB := q_inTB [151, 152, 153] (by decide +kernel) (by decide +kernel)
theorem c_IW11 : c_mokI mX11_init := ⟨q_inTB [149, 119, 150] (by decide +kernel) (by decide +kernel), rfl, rfl, by decide +kernel, by decide⟩
theorem c_NW13_8 : ∀ w ∈ [Cond.classLink (q_own 13) 8 (q_own 11), Cond.instantiable (q_own 11) (q_N 11), Cond.initialized (q_own 11)], w ∈ q_TB := q_inTB [146, 147, 119] (by decide +kernel) (by decide +kernel)
theorem c_OW12 : ∀ w ∈ [Cond.methodLink (q_own 12) 11 Lib.objectInit, Cond.instanceMethod Lib.objectInit, Cond.code Lib.objectInit ⟨#[0xb1]⟩ 1 none], w ∈ q_TB := q_inTB [1589, 152, 153] (by decide +kernel) (by decide +kernel)
theorem c_IW12 : c_mokI mX12_init := ⟨q_inTB [1587, 131, 1588] (by decide +kernel) (by decide +kernel), rfl, rfl, by decide +kernel, by decide⟩
theorem c_NW13_114 : ∀ w ∈ [Cond.classLink (q_own 13) 114 (q_own 12), Cond.instantiable (q_own 12) (q_N 12), Cond.initialized (q_own 12)], w ∈ q_TB := q_inTB [1584, 1585, 131] (by decide +kernel) (by decide +kernel)
def cl_pl (w : q_Mem) (o : Nat) : q_Mem := g_wI (g_wI (g_wI (g_wI (g_wI (g_wI (g_wI (g_wI (g_wI (g_wI (g_wI w o 1 0) (o + 1) 0 (-1)) o 1 1) (o + 1) 1 (-2)) o 1 2) (o + 1) 2 (-10)) o 1 3) (o + 1) 3 16) o 1 4) (o + 1) 4 (-11)) o 1 5
theorem cl_Z {n o : Nat} {w : q_Mem} (h : c_Z n w) (hn : o + 1 ≤ n) : c_Z n (cl_pl w o) := ((((((((((h.wI (by omega)).wI hn).wI (by omega)).wI hn).wI (by omega)).wI hn).wI (by omega)).wI hn).wI (by omega)).wI hn).wI (by omega)
def ci_2 (w : q_Mem) : q_Mem := (g_wI (c_pt w 10 2 0 3) 2 6 (-1))
theorem cz_2 {w : q_Mem} (hz : c_Z 2 w) : c_Z 3 (ci_2 w) := by
  unfold ci_2
  have z1 : c_Z 3 w := hz.le (by decide)
  have z2 : c_Z 3 (c_pt w 10 2 0 3) := z1.pt (by decide)
  have z3 : c_Z 3 (g_wI (c_pt w 10 2 0 3) 2 6 (-1)) := z2.wI (by decide)
  exact z3
set_option maxHeartbeats 4000000 in
theorem cv_2 {w : q_Mem} (hz : c_Z 2 w) : q_Ev 1 1 600 mX10_init 2 true w [.ref 2] (fun r n' w' => r = none ∧ n' = 3 ∧ w' = ci_2 w) (fun _ _ _ => False) := by
  refine c_ev (by decide +kernel) rfl (Nat.le_of_ble_eq_true rfl) rfl ?_
  show p_Ex c_In 1 1 600 mX10_init 2 true (0, [some (.ref (2))], [], w) _ _
  refine pg_blk [(.aload_n 0, 1, 0, 0)] 1 [some (.ref (2))] [.ref (2)] w [] (by decide +kernel) (by refine gt_aload_n (r := 2) rfl ?_; exact gt_z rfl rfl rfl rfl rfl) trivial ?_
  refine p_Ex_obj (by decide) (by decide +kernel) (Nat.le_of_ble_eq_true rfl) (by decide) c_OW10 ?_
  refine pg_blk [(.aload_n 0, 1, 0, 0), (.sipush 600, 3, 0, 0)] 8 [some (.ref (2))] [.int (600), .ref (2)] w [] (by decide +kernel) (by refine gt_aload_n (r := 2) rfl ?_; refine gt_sipush (v := 600) (by decide +kernel) ?_; exact gt_z rfl rfl rfl rfl rfl) trivial ?_
  refine p_Ex_newarr (a := 0) (b := 0) (N := 600) (x := 13) (by decide) (by decide) (by decide) (by decide) (by decide) rfl ⟨(hz 3 (by decide)).1, (hz 3 (by decide)).2.1⟩ (by decide +kernel) c_AW13 ?_
  have z1 : c_Z 3 w := hz.le (by decide)
  refine p_Ex_putF (idx := 9) (x := 10) (k := 0) (fun _ _ _ _ _ h => h) (by decide) (by decide) (by decide +kernel) rfl rfl rfl (q_id_of rfl) (by decide +kernel) ?_
  show p_Ex c_In 1 0 0 mX10_init 3 true (13, [some (.ref (2))], [], (c_pt w 10 2 0 3)) _ _
  have z2 : c_Z 3 (c_pt w 10 2 0 3) := z1.pt (by decide)
  refine pg_blk [(.aload_n 0, 1, 0, 0), (.iconst (-1), 1, 0, 0), (.putfield 15, 3, 10, 6)] 18 [some (.ref (2))] [] (g_wI (c_pt w 10 2 0 3) 2 6 (-1)) [q_id 3 10 2] (by decide +kernel) (by refine gt_aload_n (r := 2) rfl ?_; refine gt_iconst (v := -1) (by decide) ?_; refine gt_putI rfl ?_; exact gt_z rfl rfl rfl rfl rfl) (q_id_of rfl) ?_
  have z3 : c_Z 3 (g_wI (c_pt w 10 2 0 3) 2 6 (-1)) := z2.wI (by decide)
  exact p_Ex_ret none (by decide +kernel) rfl ⟨rfl, rfl, rfl⟩
def ci_4 (w : q_Mem) : q_Mem := (c_pt (c_pt (c_pt (c_pt (c_pt (c_pt (c_pt (c_pt (c_pt (c_pt (c_pt (c_pt (c_pt (c_pt (c_pt w 2 4 1 5) 2 4 2 6) 2 4 4 7) 2 4 5 8) 2 4 6 9) 2 4 7 10) 2 4 8 11) 2 4 9 12) 2 4 11 13) 2 4 12 14) 2 4 13 15) 2 4 15 16) 2 4 16 17) 2 4 17 18) 2 4 19 19)
theorem cz_4 {w : q_Mem} (hz : c_Z 4 w) : c_Z 19 (ci_4 w) := by
  unfold ci_4
  have z1 : c_Z 5 w := hz.le (by decide)
  have z2 : c_Z 5 (c_pt w 2 4 1 5) := z1.pt (by decide)
  have z3 : c_Z 6 (c_pt w 2 4 1 5) := z2.le (by decide)
  have z4 : c_Z 6 (c_pt (c_pt w 2 4 1 5) 2 4 2 6) := z3.pt (by decide)
  have z5 : c_Z 7 (c_pt (c_pt w 2 4 1 5) 2 4 2 6) := z4.le (by decide)
  have z6 : c_Z 7 (c_pt (c_pt (c_pt w 2 4 1 5) 2 4 2 6) 2 4 4 7) := z5.pt (by decide)
  have z7 : c_Z 8 (c_pt (c_pt (c_pt w 2 4 1 5) 2 4 2 6) 2 4 4 7) := z6.le (by decide)
  have z8 : c_Z 8 (c_pt (c_pt (c_pt (c_pt w 2 4 1 5) 2 4 2 6) 2 4 4 7) 2 4 5 8) := z7.pt (by decide)
  have z9 : c_Z 9 (c_pt (c_pt (c_pt (c_pt w 2 4 1 5) 2 4 2 6) 2 4 4 7) 2 4 5 8) := z8.le (by decide)
  have z10 : c_Z 9 (c_pt (c_pt (c_pt (c_pt (c_pt w 2 4 1 5) 2 4 2 6) 2 4 4 7) 2 4 5 8) 2 4 6 9) := z9.pt (by decide)
  have z11 : c_Z 10 (c_pt (c_pt (c_pt (c_pt (c_pt w 2 4 1 5) 2 4 2 6) 2 4 4 7) 2 4 5 8) 2 4 6 9) := z10.le (by decide)
  have z12 : c_Z 10 (c_pt (c_pt (c_pt (c_pt (c_pt (c_pt w 2 4 1 5) 2 4 2 6) 2 4 4 7) 2 4 5 8) 2 4 6 9) 2 4 7 10) := z11.pt (by decide)
  have z13 : c_Z 11 (c_pt (c_pt (c_pt (c_pt (c_pt (c_pt w 2 4 1 5) 2 4 2 6) 2 4 4 7) 2 4 5 8) 2 4 6 9) 2 4 7 10) := z12.le (by decide)
  have z14 : c_Z 11 (c_pt (c_pt (c_pt (c_pt (c_pt (c_pt (c_pt w 2 4 1 5) 2 4 2 6) 2 4 4 7) 2 4 5 8) 2 4 6 9) 2 4 7 10) 2 4 8 11) := z13.pt (by decide)
  have z15 : c_Z 12 (c_pt (c_pt (c_pt (c_pt (c_pt (c_pt (c_pt w 2 4 1 5) 2 4 2 6) 2 4 4 7) 2 4 5 8) 2 4 6 9) 2 4 7 10) 2 4 8 11) := z14.le (by decide)
  have z16 : c_Z 12 (c_pt (c_pt (c_pt (c_pt (c_pt (c_pt (c_pt (c_pt w 2 4 1 5) 2 4 2 6) 2 4 4 7) 2 4 5 8) 2 4 6 9) 2 4 7 10) 2 4 8 11) 2 4 9 12) := z15.pt (by decide)
  have z17 : c_Z 13 (c_pt (c_pt (c_pt (c_pt (c_pt (c_pt (c_pt (c_pt w 2 4 1 5) 2 4 2 6) 2 4 4 7) 2 4 5 8) 2 4 6 9) 2 4 7 10) 2 4 8 11) 2 4 9 12) := z16.le (by decide)
  have z18 : c_Z 13 (c_pt (c_pt (c_pt (c_pt (c_pt (c_pt (c_pt (c_pt (c_pt w 2 4 1 5) 2 4 2 6) 2 4 4 7) 2 4 5 8) 2 4 6 9) 2 4 7 10) 2 4 8 11) 2 4 9 12) 2 4 11 13) := z17.pt (by decide)
  have z19 : c_Z 14 (c_pt (c_pt (c_pt (c_pt (c_pt (c_pt (c_pt (c_pt (c_pt w 2 4 1 5) 2 4 2 6) 2 4 4 7) 2 4 5 8) 2 4 6 9) 2 4 7 10) 2 4 8 11) 2 4 9 12) 2 4 11 13) := z18.le (by decide)
  have z20 : c_Z 14 (c_pt (c_pt (c_pt (c_pt (c_pt (c_pt (c_pt (c_pt (c_pt (c_pt w 2 4 1 5) 2 4 2 6) 2 4 4 7) 2 4 5 8) 2 4 6 9) 2 4 7 10) 2 4 8 11) 2 4 9 12) 2 4 11 13) 2 4 12 14) := z19.pt (by decide)
  have z21 : c_Z 15 (c_pt (c_pt (c_pt (c_pt (c_pt (c_pt (c_pt (c_pt (c_pt (c_pt w 2 4 1 5) 2 4 2 6) 2 4 4 7) 2 4 5 8) 2 4 6 9) 2 4 7 10) 2 4 8 11) 2 4 9 12) 2 4 11 13) 2 4 12 14) := z20.le (by decide)
  have z22 : c_Z 15 (c_pt (c_pt (c_pt (c_pt (c_pt (c_pt (c_pt (c_pt (c_pt (c_pt (c_pt w 2 4 1 5) 2 4 2 6) 2 4 4 7) 2 4 5 8) 2 4 6 9) 2 4 7 10) 2 4 8 11) 2 4 9 12) 2 4 11 13) 2 4 12 14) 2 4 13 15) := z21.pt (by decide)
  have z23 : c_Z 16 (c_pt (c_pt (c_pt (c_pt (c_pt (c_pt (c_pt (c_pt (c_pt (c_pt (c_pt w 2 4 1 5) 2 4 2 6) 2 4 4 7) 2 4 5 8) 2 4 6 9) 2 4 7 10) 2 4 8 11) 2 4 9 12) 2 4 11 13) 2 4 12 14) 2 4 13 15) := z22.le (by decide)
  have z24 : c_Z 16 (c_pt (c_pt (c_pt (c_pt (c_pt (c_pt (c_pt (c_pt (c_pt (c_pt (c_pt (c_pt w 2 4 1 5) 2 4 2 6) 2 4 4 7) 2 4 5 8) 2 4 6 9) 2 4 7 10) 2 4 8 11) 2 4 9 12) 2 4 11 13) 2 4 12 14) 2 4 13 15) 2 4 15 16) := z23.pt (by decide)
  have z25 : c_Z 17 (c_pt (c_pt (c_pt (c_pt (c_pt (c_pt (c_pt (c_pt (c_pt (c_pt (c_pt (c_pt w 2 4 1 5) 2 4 2 6) 2 4 4 7) 2 4 5 8) 2 4 6 9) 2 4 7 10) 2 4 8 11) 2 4 9 12) 2 4 11 13) 2 4 12 14) 2 4 13 15) 2 4 15 16) := z24.le (by decide)
  have z26 : c_Z 17 (c_pt (c_pt (c_pt (c_pt (c_pt (c_pt (c_pt (c_pt (c_pt (c_pt (c_pt (c_pt (c_pt w 2 4 1 5) 2 4 2 6) 2 4 4 7) 2 4 5 8) 2 4 6 9) 2 4 7 10) 2 4 8 11) 2 4 9 12) 2 4 11 13) 2 4 12 14) 2 4 13 15) 2 4 15 16) 2 4 16 17) := z25.pt (by decide)
  have z27 : c_Z 18 (c_pt (c_pt (c_pt (c_pt (c_pt (c_pt (c_pt (c_pt (c_pt (c_pt (c_pt (c_pt (c_pt w 2 4 1 5) 2 4 2 6) 2 4 4 7) 2 4 5 8) 2 4 6 9) 2 4 7 10) 2 4 8 11) 2 4 9 12) 2 4 11 13) 2 4 12 14) 2 4 13 15) 2 4 15 16) 2 4 16 17) := z26.le (by decide)
  have z28 : c_Z 18 (c_pt (c_pt (c_pt (c_pt (c_pt (c_pt (c_pt (c_pt (c_pt (c_pt (c_pt (c_pt (c_pt (c_pt w 2 4 1 5) 2 4 2 6) 2 4 4 7) 2 4 5 8) 2 4 6 9) 2 4 7 10) 2 4 8 11) 2 4 9 12) 2 4 11 13) 2 4 12 14) 2 4 13 15) 2 4 15 16) 2 4 16 17) 2 4 17 18) := z27.pt (by decide)
  have z29 : c_Z 19 (c_pt (c_pt (c_pt (c_pt (c_pt (c_pt (c_pt (c_pt (c_pt (c_pt (c_pt (c_pt (c_pt (c_pt w 2 4 1 5) 2 4 2 6) 2 4 4 7) 2 4 5 8) 2 4 6 9) 2 4 7 10) 2 4 8 11) 2 4 9 12) 2 4 11 13) 2 4 12 14) 2 4 13 15) 2 4 15 16) 2 4 16 17) 2 4 17 18) := z28.le (by decide)
  have z30 : c_Z 19 (c_pt (c_pt (c_pt (c_pt (c_pt (c_pt (c_pt (c_pt (c_pt (c_pt (c_pt (c_pt (c_pt (c_pt (c_pt w 2 4 1 5) 2 4 2 6) 2 4 4 7) 2 4 5 8) 2 4 6 9) 2 4 7 10) 2 4 8 11) 2 4 9 12) 2 4 11 13) 2 4 12 14) 2 4 13 15) 2 4 15 16) 2 4 16 17) 2 4 17 18) 2 4 19 19) := z29.pt (by decide)
  exact z30
set_option maxHeartbeats 4000000 in
theorem cv_4 {w : q_Mem} (hz : c_Z 4 w) : q_Ev 1 15 198 mX2_init 4 true w [.ref 4] (fun r n' w' => r = none ∧ n' = 19 ∧ w' = ci_4 w) (fun _ _ _ => False) := by
  refine c_ev (by decide +kernel) rfl (Nat.le_of_ble_eq_true rfl) rfl ?_
  show p_Ex c_In 1 15 198 mX2_init 4 true (0, [some (.ref (4))], [], w) _ _
  refine pg_blk [(.aload_n 0, 1, 0, 0)] 1 [some (.ref (4))] [.ref (4)] w [] (by decide +kernel) (by refine gt_aload_n (r := 4) rfl ?_; exact gt_z rfl rfl rfl rfl rfl) trivial ?_
  refine p_Ex_obj (by decide) (by decide +kernel) (Nat.le_of_ble_eq_true rfl) (by decide) c_OW2 ?_
  refine pg_blk [(.aload_n 0, 1, 0, 0), (.bipush 6, 2, 0, 0)] 7 [some (.ref (4))] [.int (6), .ref (4)] w [] (by decide +kernel) (by refine gt_aload_n (r := 4) rfl ?_; refine gt_bipush (v := 6) (by decide +kernel) ?_; exact gt_z rfl rfl rfl rfl rfl) trivial ?_
  refine p_Ex_newarr (a := 14) (b := 192) (N := 6) (x := 14) (by decide) (by decide) (by decide) (by decide) (by decide) rfl ⟨(hz 5 (by decide)).1, (hz 5 (by decide)).2.1⟩ (by decide +kernel) c_AW14 ?_
  have z1 : c_Z 5 w := hz.le (by decide)
  refine p_Ex_putF (idx := 9) (x := 2) (k := 1) (fun _ _ _ _ _ h => h) (by decide) (by decide) (by decide +kernel) rfl rfl rfl (q_id_of rfl) (by decide +kernel) ?_
  show p_Ex c_In 1 14 192 mX2_init 5 true (12, [some (.ref (4))], [], (c_pt w 2 4 1 5)) _ _
  have z2 : c_Z 5 (c_pt w 2 4 1 5) := z1.pt (by decide)
  refine pg_blk [(.aload_n 0, 1, 0, 0), (.bipush 6, 2, 0, 0)] 15 [some (.ref (4))] [.int (6), .ref (4)] (c_pt w 2 4 1 5) [] (by decide +kernel) (by refine gt_aload_n (r := 4) rfl ?_; refine gt_bipush (v := 6) (by decide +kernel) ?_; exact gt_z rfl rfl rfl rfl rfl) trivial ?_
  refine p_Ex_newarr (a := 13) (b := 186) (N := 6) (x := 14) (by decide) (by decide) (by decide) (by decide) (by decide) rfl ⟨(z2 6 (by decide)).1, (z2 6 (by decide)).2.1⟩ (by decide +kernel) c_AW14 ?_
  have z3 : c_Z 6 (c_pt w 2 4 1 5) := z2.le (by decide)
  refine p_Ex_putF (idx := 15) (x := 2) (k := 2) (fun _ _ _ _ _ h => h) (by decide) (by decide) (by decide +kernel) rfl rfl rfl (q_id_of rfl) (by decide +kernel) ?_
  show p_Ex c_In 1 13 186 mX2_init 6 true (20, [some (.ref (4))], [], (c_pt (c_pt w 2 4 1 5) 2 4 2 6)) _ _
  have z4 : c_Z 6 (c_pt (c_pt w 2 4 1 5) 2 4 2 6) := z3.pt (by decide)
  refine pg_blk [(.aload_n 0, 1, 0, 0), (.bipush 10, 2, 0, 0)] 23 [some (.ref (4))] [.int (10), .ref (4)] (c_pt (c_pt w 2 4 1 5) 2 4 2 6) [] (by decide +kernel) (by refine gt_aload_n (r := 4) rfl ?_; refine gt_bipush (v := 10) (by decide +kernel) ?_; exact gt_z rfl rfl rfl rfl rfl) trivial ?_
  refine p_Ex_newarr (a := 12) (b := 176) (N := 10) (x := 14) (by decide) (by decide) (by decide) (by decide) (by decide) rfl ⟨(z4 7 (by decide)).1, (z4 7 (by decide)).2.1⟩ (by decide +kernel) c_AW14 ?_
  have z5 : c_Z 7 (c_pt (c_pt w 2 4 1 5) 2 4 2 6) := z4.le (by decide)
  refine p_Ex_putF (idx := 18) (x := 2) (k := 4) (fun _ _ _ _ _ h => h) (by decide) (by decide) (by decide +kernel) rfl rfl rfl (q_id_of rfl) (by decide +kernel) ?_
  show p_Ex c_In 1 12 176 mX2_init 7 true (28, [some (.ref (4))], [], (c_pt (c_pt (c_pt w 2 4 1 5) 2 4 2 6) 2 4 4 7)) _ _
  have z6 : c_Z 7 (c_pt (c_pt (c_pt w 2 4 1 5) 2 4 2 6) 2 4 4 7) := z5.pt (by decide)
  refine pg_blk [(.aload_n 0, 1, 0, 0), (.bipush 10, 2, 0, 0)] 31 [some (.ref (4))] [.int (10), .ref (4)] (c_pt (c_pt (c_pt w 2 4 1 5) 2 4 2 6) 2 4 4 7) [] (by decide +kernel) (by refine gt_aload_n (r := 4) rfl ?_; refine gt_bipush (v := 10) (by decide +kernel) ?_; exact gt_z rfl rfl rfl rfl rfl) trivial ?_
  refine p_Ex_newarr (a := 11) (b := 166) (N := 10) (x := 14) (by decide) (by decide) (by decide) (by decide) (by decide) rfl ⟨(z6 8 (by decide)).1, (z6 8 (by decide)).2.1⟩ (by decide +kernel) c_AW14 ?_
  have z7 : c_Z 8 (c_pt (c_pt (c_pt w 2 4 1 5) 2 4 2 6) 2 4 4 7) := z6.le (by decide)
  refine p_Ex_putF (idx := 21) (x := 2) (k := 5) (fun _ _ _ _ _ h => h) (by decide) (by decide) (by decide +kernel) rfl rfl rfl (q_id_of rfl) (by decide +kernel) ?_
  show p_Ex c_In 1 11 166 mX2_init 8 true (36, [some (.ref (4))], [], (c_pt (c_pt (c_pt (c_pt w 2 4 1 5) 2 4 2 6) 2 4 4 7) 2 4 5 8)) _ _
  have z8 : c_Z 8 (c_pt (c_pt (c_pt (c_pt w 2 4 1 5) 2 4 2 6) 2 4 4 7) 2 4 5 8) := z7.pt (by decide)
  refine pg_blk [(.aload_n 0, 1, 0, 0), (.bipush 10, 2, 0, 0)] 39 [some (.ref (4))] [.int (10), .ref (4)] (c_pt (c_pt (c_pt (c_pt w 2 4 1 5) 2 4 2 6) 2 4 4 7) 2 4 5 8) [] (by decide +kernel) (by refine gt_aload_n (r := 4) rfl ?_; refine gt_bipush (v := 10) (by decide +kernel) ?_; exact gt_z rfl rfl rfl rfl rfl) trivial ?_
  refine p_Ex_newarr (a := 10) (b := 156) (N := 10) (x := 14) (by decide) (by decide) (by decide) (by decide) (by decide) rfl ⟨(z8 9 (by decide)).1, (z8 9 (by decide)).2.1⟩ (by decide +kernel) c_AW14 ?_
  have z9 : c_Z 9 (c_pt (c_pt (c_pt (c_pt w 2 4 1 5) 2 4 2 6) 2 4 4 7) 2 4 5 8) := z8.le (by decide)
  refine p_Ex_putF (idx := 24) (x := 2) (k := 6) (fun _ _ _ _ _ h => h) (by decide) (by decide) (by decide +kernel) rfl rfl rfl (q_id_of rfl) (by decide +kernel) ?_
  show p_Ex c_In 1 10 156 mX2_init 9 true (44, [some (.ref (4))], [], (c_pt (c_pt (c_pt (c_pt (c_pt w 2 4 1 5) 2 4 2 6) 2 4 4 7) 2 4 5 8) 2 4 6 9)) _ _
  have z10 : c_Z 9 (c_pt (c_pt (c_pt (c_pt (c_pt w 2 4 1 5) 2 4 2 6) 2 4 4 7) 2 4 5 8) 2 4 6 9) := z9.pt (by decide)
  refine pg_blk [(.aload_n 0, 1, 0, 0), (.bipush 10, 2, 0, 0)] 47 [some (.ref (4))] [.int (10), .ref (4)] (c_pt (c_pt (c_pt (c_pt (c_pt w 2 4 1 5) 2 4 2 6) 2 4 4 7) 2 4 5 8) 2 4 6 9) [] (by decide +kernel) (by refine gt_aload_n (r := 4) rfl ?_; refine gt_bipush (v := 10) (by decide +kernel) ?_; exact gt_z rfl rfl rfl rfl rfl) trivial ?_
  refine p_Ex_newarr (a := 9) (b := 146) (N := 10) (x := 14) (by decide) (by decide) (by decide) (by decide) (by decide) rfl ⟨(z10 10 (by decide)).1, (z10 10 (by decide)).2.1⟩ (by decide +kernel) c_AW14 ?_
  have z11 : c_Z 10 (c_pt (c_pt (c_pt (c_pt (c_pt w 2 4 1 5) 2 4 2 6) 2 4 4 7) 2 4 5 8) 2 4 6 9) := z10.le (by decide)
  refine p_Ex_putF (idx := 27) (x := 2) (k := 7) (fun _ _ _ _ _ h => h) (by decide) (by decide) (by decide +kernel) rfl rfl rfl (q_id_of rfl) (by decide +kernel) ?_
  show p_Ex c_In 1 9 146 mX2_init 10 true (52, [some (.ref (4))], [], (c_pt (c_pt (c_pt (c_pt (c_pt (c_pt w 2 4 1 5) 2 4 2 6) 2 4 4 7) 2 4 5 8) 2 4 6 9) 2 4 7 10)) _ _
  have z12 : c_Z 10 (c_pt (c_pt (c_pt (c_pt (c_pt (c_pt w 2 4 1 5) 2 4 2 6) 2 4 4 7) 2 4 5 8) 2 4 6 9) 2 4 7 10) := z11.pt (by decide)
  refine pg_blk [(.aload_n 0, 1, 0, 0), (.bipush 10, 2, 0, 0)] 55 [some (.ref (4))] [.int (10), .ref (4)] (c_pt (c_pt (c_pt (c_pt (c_pt (c_pt w 2 4 1 5) 2 4 2 6) 2 4 4 7) 2 4 5 8) 2 4 6 9) 2 4 7 10) [] (by decide +kernel) (by refine gt_aload_n (r := 4) rfl ?_; refine gt_bipush (v := 10) (by decide +kernel) ?_; exact gt_z rfl rfl rfl rfl rfl) trivial ?_
  refine p_Ex_newarr (a := 8) (b := 136) (N := 10) (x := 14) (by decide) (by decide) (by decide) (by decide) (by decide) rfl ⟨(z12 11 (by decide)).1, (z12 11 (by decide)).2.1⟩ (by decide +kernel) c_AW14 ?_
  have z13 : c_Z 11 (c_pt (c_pt (c_pt (c_pt (c_pt (c_pt w 2 4 1 5) 2 4 2 6) 2 4 4 7) 2 4 5 8) 2 4 6 9) 2 4 7 10) := z12.le (by decide)
  refine p_Ex_putF (idx := 30) (x := 2) (k := 8) (fun _ _ _ _ _ h => h) (by decide) (by decide) (by decide +kernel) rfl rfl rfl (q_id_of rfl) (by decide +kernel) ?_
  show p_Ex c_In 1 8 136 mX2_init 11 true (60, [some (.ref (4))], [], (c_pt (c_pt (c_pt (c_pt (c_pt (c_pt (c_pt w 2 4 1 5) 2 4 2 6) 2 4 4 7) 2 4 5 8) 2 4 6 9) 2 4 7 10) 2 4 8 11)) _ _
  have z14 : c_Z 11 (c_pt (c_pt (c_pt (c_pt (c_pt (c_pt (c_pt w 2 4 1 5) 2 4 2 6) 2 4 4 7) 2 4 5 8) 2 4 6 9) 2 4 7 10) 2 4 8 11) := z13.pt (by decide)
  refine pg_blk [(.aload_n 0, 1, 0, 0), (.bipush 10, 2, 0, 0)] 63 [some (.ref (4))] [.int (10), .ref (4)] (c_pt (c_pt (c_pt (c_pt (c_pt (c_pt (c_pt w 2 4 1 5) 2 4 2 6) 2 4 4 7) 2 4 5 8) 2 4 6 9) 2 4 7 10) 2 4 8 11) [] (by decide +kernel) (by refine gt_aload_n (r := 4) rfl ?_; refine gt_bipush (v := 10) (by decide +kernel) ?_; exact gt_z rfl rfl rfl rfl rfl) trivial ?_
  refine p_Ex_newarr (a := 7) (b := 126) (N := 10) (x := 14) (by decide) (by decide) (by decide) (by decide) (by decide) rfl ⟨(z14 12 (by decide)).1, (z14 12 (by decide)).2.1⟩ (by decide +kernel) c_AW14 ?_
  have z15 : c_Z 12 (c_pt (c_pt (c_pt (c_pt (c_pt (c_pt (c_pt w 2 4 1 5) 2 4 2 6) 2 4 4 7) 2 4 5 8) 2 4 6 9) 2 4 7 10) 2 4 8 11) := z14.le (by decide)
  refine p_Ex_putF (idx := 33) (x := 2) (k := 9) (fun _ _ _ _ _ h => h) (by decide) (by decide) (by decide +kernel) rfl rfl rfl (q_id_of rfl) (by decide +kernel) ?_
  show p_Ex c_In 1 7 126 mX2_init 12 true (68, [some (.ref (4))], [], (c_pt (c_pt (c_pt (c_pt (c_pt (c_pt (c_pt (c_pt w 2 4 1 5) 2 4 2 6) 2 4 4 7) 2 4 5 8) 2 4 6 9) 2 4 7 10) 2 4 8 11) 2 4 9 12)) _ _
  have z16 : c_Z 12 (c_pt (c_pt (c_pt (c_pt (c_pt (c_pt (c_pt (c_pt w 2 4 1 5) 2 4 2 6) 2 4 4 7) 2 4 5 8) 2 4 6 9) 2 4 7 10) 2 4 8 11) 2 4 9 12) := z15.pt (by decide)
  refine pg_blk [(.aload_n 0, 1, 0, 0), (.bipush 48, 2, 0, 0)] 71 [some (.ref (4))] [.int (48), .ref (4)] (c_pt (c_pt (c_pt (c_pt (c_pt (c_pt (c_pt (c_pt w 2 4 1 5) 2 4 2 6) 2 4 4 7) 2 4 5 8) 2 4 6 9) 2 4 7 10) 2 4 8 11) 2 4 9 12) [] (by decide +kernel) (by refine gt_aload_n (r := 4) rfl ?_; refine gt_bipush (v := 48) (by decide +kernel) ?_; exact gt_z rfl rfl rfl rfl rfl) trivial ?_
  refine p_Ex_newarr (a := 6) (b := 78) (N := 48) (x := 14) (by decide) (by decide) (by decide) (by decide) (by decide) rfl ⟨(z16 13 (by decide)).1, (z16 13 (by decide)).2.1⟩ (by decide +kernel) c_AW14 ?_
  have z17 : c_Z 13 (c_pt (c_pt (c_pt (c_pt (c_pt (c_pt (c_pt (c_pt w 2 4 1 5) 2 4 2 6) 2 4 4 7) 2 4 5 8) 2 4 6 9) 2 4 7 10) 2 4 8 11) 2 4 9 12) := z16.le (by decide)
  refine p_Ex_putF (idx := 36) (x := 2) (k := 11) (fun _ _ _ _ _ h => h) (by decide) (by decide) (by decide +kernel) rfl rfl rfl (q_id_of rfl) (by decide +kernel) ?_
  show p_Ex c_In 1 6 78 mX2_init 13 true (76, [some (.ref (4))], [], (c_pt (c_pt (c_pt (c_pt (c_pt (c_pt (c_pt (c_pt (c_pt w 2 4 1 5) 2 4 2 6) 2 4 4 7) 2 4 5 8) 2 4 6 9) 2 4 7 10) 2 4 8 11) 2 4 9 12) 2 4 11 13)) _ _
  have z18 : c_Z 13 (c_pt (c_pt (c_pt (c_pt (c_pt (c_pt (c_pt (c_pt (c_pt w 2 4 1 5) 2 4 2 6) 2 4 4 7) 2 4 5 8) 2 4 6 9) 2 4 7 10) 2 4 8 11) 2 4 9 12) 2 4 11 13) := z17.pt (by decide)
  refine pg_blk [(.aload_n 0, 1, 0, 0), (.bipush 20, 2, 0, 0)] 79 [some (.ref (4))] [.int (20), .ref (4)] (c_pt (c_pt (c_pt (c_pt (c_pt (c_pt (c_pt (c_pt (c_pt w 2 4 1 5) 2 4 2 6) 2 4 4 7) 2 4 5 8) 2 4 6 9) 2 4 7 10) 2 4 8 11) 2 4 9 12) 2 4 11 13) [] (by decide +kernel) (by refine gt_aload_n (r := 4) rfl ?_; refine gt_bipush (v := 20) (by decide +kernel) ?_; exact gt_z rfl rfl rfl rfl rfl) trivial ?_
  refine p_Ex_newarr (a := 5) (b := 58) (N := 20) (x := 14) (by decide) (by decide) (by decide) (by decide) (by decide) rfl ⟨(z18 14 (by decide)).1, (z18 14 (by decide)).2.1⟩ (by decide +kernel) c_AW14 ?_
  have z19 : c_Z 14 (c_pt (c_pt (c_pt (c_pt (c_pt (c_pt (c_pt (c_pt (c_pt w 2 4 1 5) 2 4 2 6) 2 4 4 7) 2 4 5 8) 2 4 6 9) 2 4 7 10) 2 4 8 11) 2 4 9 12) 2 4 11 13) := z18.le (by decide)
  refine p_Ex_putF (idx := 39) (x := 2) (k := 12) (fun _ _ _ _ _ h => h) (by decide) (by decide) (by decide +kernel) rfl rfl rfl (q_id_of rfl) (by decide +kernel) ?_
  show p_Ex c_In 1 5 58 mX2_init 14 true (84, [some (.ref (4))], [], (c_pt (c_pt (c_pt (c_pt (c_pt (c_pt (c_pt (c_pt (c_pt (c_pt w 2 4 1 5) 2 4 2 6) 2 4 4 7) 2 4 5 8) 2 4 6 9) 2 4 7 10) 2 4 8 11) 2 4 9 12) 2 4 11 13) 2 4 12 14)) _ _
  have z20 : c_Z 14 (c_pt (c_pt (c_pt (c_pt (c_pt (c_pt (c_pt (c_pt (c_pt (c_pt w 2 4 1 5) 2 4 2 6) 2 4 4 7) 2 4 5 8) 2 4 6 9) 2 4 7 10) 2 4 8 11) 2 4 9 12) 2 4 11 13) 2 4 12 14) := z19.pt (by decide)
  refine pg_blk [(.aload_n 0, 1, 0, 0), (.iconst 4, 1, 0, 0)] 86 [some (.ref (4))] [.int (4), .ref (4)] (c_pt (c_pt (c_pt (c_pt (c_pt (c_pt (c_pt (c_pt (c_pt (c_pt w 2 4 1 5) 2 4 2 6) 2 4 4 7) 2 4 5 8) 2 4 6 9) 2 4 7 10) 2 4 8 11) 2 4 9 12) 2 4 11 13) 2 4 12 14) [] (by decide +kernel) (by refine gt_aload_n (r := 4) rfl ?_; refine gt_iconst (v := 4) (by decide) ?_; exact gt_z rfl rfl rfl rfl rfl) trivial ?_
  refine p_Ex_newarr (a := 4) (b := 54) (N := 4) (x := 14) (by decide) (by decide) (by decide) (by decide) (by decide) rfl ⟨(z20 15 (by decide)).1, (z20 15 (by decide)).2.1⟩ (by decide +kernel) c_AW14 ?_
  have z21 : c_Z 15 (c_pt (c_pt (c_pt (c_pt (c_pt (c_pt (c_pt (c_pt (c_pt (c_pt w 2 4 1 5) 2 4 2 6) 2 4 4 7) 2 4 5 8) 2 4 6 9) 2 4 7 10) 2 4 8 11) 2 4 9 12) 2 4 11 13) 2 4 12 14) := z20.le (by decide)
  refine p_Ex_putF (idx := 42) (x := 2) (k := 13) (fun _ _ _ _ _ h => h) (by decide) (by decide) (by decide +kernel) rfl rfl rfl (q_id_of rfl) (by decide +kernel) ?_
  show p_Ex c_In 1 4 54 mX2_init 15 true (91, [some (.ref (4))], [], (c_pt (c_pt (c_pt (c_pt (c_pt (c_pt (c_pt (c_pt (c_pt (c_pt (c_pt w 2 4 1 5) 2 4 2 6) 2 4 4 7) 2 4 5 8) 2 4 6 9) 2 4 7 10) 2 4 8 11) 2 4 9 12) 2 4 11 13) 2 4 12 14) 2 4 13 15)) _ _
  have z22 : c_Z 15 (c_pt (c_pt (c_pt (c_pt (c_pt (c_pt (c_pt (c_pt (c_pt (c_pt (c_pt w 2 4 1 5) 2 4 2 6) 2 4 4 7) 2 4 5 8) 2 4 6 9) 2 4 7 10) 2 4 8 11) 2 4 9 12) 2 4 11 13) 2 4 12 14) 2 4 13 15) := z21.pt (by decide)
  refine pg_blk [(.aload_n 0, 1, 0, 0), (.bipush 6, 2, 0, 0)] 94 [some (.ref (4))] [.int (6), .ref (4)] (c_pt (c_pt (c_pt (c_pt (c_pt (c_pt (c_pt (c_pt (c_pt (c_pt (c_pt w 2 4 1 5) 2 4 2 6) 2 4 4 7) 2 4 5 8) 2 4 6 9) 2 4 7 10) 2 4 8 11) 2 4 9 12) 2 4 11 13) 2 4 12 14) 2 4 13 15) [] (by decide +kernel) (by refine gt_aload_n (r := 4) rfl ?_; refine gt_bipush (v := 6) (by decide +kernel) ?_; exact gt_z rfl rfl rfl rfl rfl) trivial ?_
  refine p_Ex_newarr (a := 3) (b := 48) (N := 6) (x := 14) (by decide) (by decide) (by decide) (by decide) (by decide) rfl ⟨(z22 16 (by decide)).1, (z22 16 (by decide)).2.1⟩ (by decide +kernel) c_AW14 ?_
  have z23 : c_Z 16 (c_pt (c_pt (c_pt (c_pt (c_pt (c_pt (c_pt (c_pt (c_pt (c_pt (c_pt w 2 4 1 5) 2 4 2 6) 2 4 4 7) 2 4 5 8) 2 4 6 9) 2 4 7 10) 2 4 8 11) 2 4 9 12) 2 4 11 13) 2 4 12 14) 2 4 13 15) := z22.le (by decide)
  refine p_Ex_putF (idx := 45) (x := 2) (k := 15) (fun _ _ _ _ _ h => h) (by decide) (by decide) (by decide +kernel) rfl rfl rfl (q_id_of rfl) (by decide +kernel) ?_
  show p_Ex c_In 1 3 48 mX2_init 16 true (99, [some (.ref (4))], [], (c_pt (c_pt (c_pt (c_pt (c_pt (c_pt (c_pt (c_pt (c_pt (c_pt (c_pt (c_pt w 2 4 1 5) 2 4 2 6) 2 4 4 7) 2 4 5 8) 2 4 6 9) 2 4 7 10) 2 4 8 11) 2 4 9 12) 2 4 11 13) 2 4 12 14) 2 4 13 15) 2 4 15 16)) _ _
  have z24 : c_Z 16 (c_pt (c_pt (c_pt (c_pt (c_pt (c_pt (c_pt (c_pt (c_pt (c_pt (c_pt (c_pt w 2 4 1 5) 2 4 2 6) 2 4 4 7) 2 4 5 8) 2 4 6 9) 2 4 7 10) 2 4 8 11) 2 4 9 12) 2 4 11 13) 2 4 12 14) 2 4 13 15) 2 4 15 16) := z23.pt (by decide)
  refine pg_blk [(.aload_n 0, 1, 0, 0), (.bipush 6, 2, 0, 0)] 102 [some (.ref (4))] [.int (6), .ref (4)] (c_pt (c_pt (c_pt (c_pt (c_pt (c_pt (c_pt (c_pt (c_pt (c_pt (c_pt (c_pt w 2 4 1 5) 2 4 2 6) 2 4 4 7) 2 4 5 8) 2 4 6 9) 2 4 7 10) 2 4 8 11) 2 4 9 12) 2 4 11 13) 2 4 12 14) 2 4 13 15) 2 4 15 16) [] (by decide +kernel) (by refine gt_aload_n (r := 4) rfl ?_; refine gt_bipush (v := 6) (by decide +kernel) ?_; exact gt_z rfl rfl rfl rfl rfl) trivial ?_
  refine p_Ex_newarr (a := 2) (b := 42) (N := 6) (x := 14) (by decide) (by decide) (by decide) (by decide) (by decide) rfl ⟨(z24 17 (by decide)).1, (z24 17 (by decide)).2.1⟩ (by decide +kernel) c_AW14 ?_
  have z25 : c_Z 17 (c_pt (c_pt (c_pt (c_pt (c_pt (c_pt (c_pt (c_pt (c_pt (c_pt (c_pt (c_pt w 2 4 1 5) 2 4 2 6) 2 4 4 7) 2 4 5 8) 2 4 6 9) 2 4 7 10) 2 4 8 11) 2 4 9 12) 2 4 11 13) 2 4 12 14) 2 4 13 15) 2 4 15 16) := z24.le (by decide)
  refine p_Ex_putF (idx := 48) (x := 2) (k := 16) (fun _ _ _ _ _ h => h) (by decide) (by decide) (by decide +kernel) rfl rfl rfl (q_id_of rfl) (by decide +kernel) ?_
  show p_Ex c_In 1 2 42 mX2_init 17 true (107, [some (.ref (4))], [], (c_pt (c_pt (c_pt (c_pt (c_pt (c_pt (c_pt (c_pt (c_pt (c_pt (c_pt (c_pt (c_pt w 2 4 1 5) 2 4 2 6) 2 4 4 7) 2 4 5 8) 2 4 6 9) 2 4 7 10) 2 4 8 11) 2 4 9 12) 2 4 11 13) 2 4 12 14) 2 4 13 15) 2 4 15 16) 2 4 16 17)) _ _
  have z26 : c_Z 17 (c_pt (c_pt (c_pt (c_pt (c_pt (c_pt (c_pt (c_pt (c_pt (c_pt (c_pt (c_pt (c_pt w 2 4 1 5) 2 4 2 6) 2 4 4 7) 2 4 5 8) 2 4 6 9) 2 4 7 10) 2 4 8 11) 2 4 9 12) 2 4 11 13) 2 4 12 14) 2 4 13 15) 2 4 15 16) 2 4 16 17) := z25.pt (by decide)
  refine pg_blk [(.aload_n 0, 1, 0, 0), (.bipush 6, 2, 0, 0)] 110 [some (.ref (4))] [.int (6), .ref (4)] (c_pt (c_pt (c_pt (c_pt (c_pt (c_pt (c_pt (c_pt (c_pt (c_pt (c_pt (c_pt (c_pt w 2 4 1 5) 2 4 2 6) 2 4 4 7) 2 4 5 8) 2 4 6 9) 2 4 7 10) 2 4 8 11) 2 4 9 12) 2 4 11 13) 2 4 12 14) 2 4 13 15) 2 4 15 16) 2 4 16 17) [] (by decide +kernel) (by refine gt_aload_n (r := 4) rfl ?_; refine gt_bipush (v := 6) (by decide +kernel) ?_; exact gt_z rfl rfl rfl rfl rfl) trivial ?_
  refine p_Ex_newarr (a := 1) (b := 36) (N := 6) (x := 14) (by decide) (by decide) (by decide) (by decide) (by decide) rfl ⟨(z26 18 (by decide)).1, (z26 18 (by decide)).2.1⟩ (by decide +kernel) c_AW14 ?_
  have z27 : c_Z 18 (c_pt (c_pt (c_pt (c_pt (c_pt (c_pt (c_pt (c_pt (c_pt (c_pt (c_pt (c_pt (c_pt w 2 4 1 5) 2 4 2 6) 2 4 4 7) 2 4 5 8) 2 4 6 9) 2 4 7 10) 2 4 8 11) 2 4 9 12) 2 4 11 13) 2 4 12 14) 2 4 13 15) 2 4 15 16) 2 4 16 17) := z26.le (by decide)
  refine p_Ex_putF (idx := 51) (x := 2) (k := 17) (fun _ _ _ _ _ h => h) (by decide) (by decide) (by decide +kernel) rfl rfl rfl (q_id_of rfl) (by decide +kernel) ?_
  show p_Ex c_In 1 1 36 mX2_init 18 true (115, [some (.ref (4))], [], (c_pt (c_pt (c_pt (c_pt (c_pt (c_pt (c_pt (c_pt (c_pt (c_pt (c_pt (c_pt (c_pt (c_pt w 2 4 1 5) 2 4 2 6) 2 4 4 7) 2 4 5 8) 2 4 6 9) 2 4 7 10) 2 4 8 11) 2 4 9 12) 2 4 11 13) 2 4 12 14) 2 4 13 15) 2 4 15 16) 2 4 16 17) 2 4 17 18)) _ _
  have z28 : c_Z 18 (c_pt (c_pt (c_pt (c_pt (c_pt (c_pt (c_pt (c_pt (c_pt (c_pt (c_pt (c_pt (c_pt (c_pt w 2 4 1 5) 2 4 2 6) 2 4 4 7) 2 4 5 8) 2 4 6 9) 2 4 7 10) 2 4 8 11) 2 4 9 12) 2 4 11 13) 2 4 12 14) 2 4 13 15) 2 4 15 16) 2 4 16 17) 2 4 17 18) := z27.pt (by decide)
  refine pg_blk [(.aload_n 0, 1, 0, 0), (.bipush 36, 2, 0, 0)] 118 [some (.ref (4))] [.int (36), .ref (4)] (c_pt (c_pt (c_pt (c_pt (c_pt (c_pt (c_pt (c_pt (c_pt (c_pt (c_pt (c_pt (c_pt (c_pt w 2 4 1 5) 2 4 2 6) 2 4 4 7) 2 4 5 8) 2 4 6 9) 2 4 7 10) 2 4 8 11) 2 4 9 12) 2 4 11 13) 2 4 12 14) 2 4 13 15) 2 4 15 16) 2 4 16 17) 2 4 17 18) [] (by decide +kernel) (by refine gt_aload_n (r := 4) rfl ?_; refine gt_bipush (v := 36) (by decide +kernel) ?_; exact gt_z rfl rfl rfl rfl rfl) trivial ?_
  refine p_Ex_newarr (a := 0) (b := 0) (N := 36) (x := 14) (by decide) (by decide) (by decide) (by decide) (by decide) rfl ⟨(z28 19 (by decide)).1, (z28 19 (by decide)).2.1⟩ (by decide +kernel) c_AW14 ?_
  have z29 : c_Z 19 (c_pt (c_pt (c_pt (c_pt (c_pt (c_pt (c_pt (c_pt (c_pt (c_pt (c_pt (c_pt (c_pt (c_pt w 2 4 1 5) 2 4 2 6) 2 4 4 7) 2 4 5 8) 2 4 6 9) 2 4 7 10) 2 4 8 11) 2 4 9 12) 2 4 11 13) 2 4 12 14) 2 4 13 15) 2 4 15 16) 2 4 16 17) 2 4 17 18) := z28.le (by decide)
  refine p_Ex_putF (idx := 54) (x := 2) (k := 19) (fun _ _ _ _ _ h => h) (by decide) (by decide) (by decide +kernel) rfl rfl rfl (q_id_of rfl) (by decide +kernel) ?_
  show p_Ex c_In 1 0 0 mX2_init 19 true (123, [some (.ref (4))], [], (c_pt (c_pt (c_pt (c_pt (c_pt (c_pt (c_pt (c_pt (c_pt (c_pt (c_pt (c_pt (c_pt (c_pt (c_pt w 2 4 1 5) 2 4 2 6) 2 4 4 7) 2 4 5 8) 2 4 6 9) 2 4 7 10) 2 4 8 11) 2 4 9 12) 2 4 11 13) 2 4 12 14) 2 4 13 15) 2 4 15 16) 2 4 16 17) 2 4 17 18) 2 4 19 19)) _ _
  have z30 : c_Z 19 (c_pt (c_pt (c_pt (c_pt (c_pt (c_pt (c_pt (c_pt (c_pt (c_pt (c_pt (c_pt (c_pt (c_pt (c_pt w 2 4 1 5) 2 4 2 6) 2 4 4 7) 2 4 5 8) 2 4 6 9) 2 4 7 10) 2 4 8 11) 2 4 9 12) 2 4 11 13) 2 4 12 14) 2 4 13 15) 2 4 15 16) 2 4 16 17) 2 4 17 18) 2 4 19 19) := z29.pt (by decide)
  exact p_Ex_ret none (by decide +kernel) rfl ⟨rfl, rfl, rfl⟩
def ci_20 (w : q_Mem) : q_Mem := (c_pt (c_pt (c_pt (c_pt (c_pt (c_pt (c_pt (c_pt (c_pt (c_pt (c_pt (c_pt (c_pt (c_pt (c_pt w 2 20 1 21) 2 20 2 22) 2 20 4 23) 2 20 5 24) 2 20 6 25) 2 20 7 26) 2 20 8 27) 2 20 9 28) 2 20 11 29) 2 20 12 30) 2 20 13 31) 2 20 15 32) 2 20 16 33) 2 20 17 34) 2 20 19 35)
theorem cz_20 {w : q_Mem} (hz : c_Z 20 w) : c_Z 35 (ci_20 w) := by
  unfold ci_20
  have z1 : c_Z 21 w := hz.le (by decide)
  have z2 : c_Z 21 (c_pt w 2 20 1 21) := z1.pt (by decide)
  have z3 : c_Z 22 (c_pt w 2 20 1 21) := z2.le (by decide)
  have z4 : c_Z 22 (c_pt (c_pt w 2 20 1 21) 2 20 2 22) := z3.pt (by decide)
  have z5 : c_Z 23 (c_pt (c_pt w 2 20 1 21) 2 20 2 22) := z4.le (by decide)
  have z6 : c_Z 23 (c_pt (c_pt (c_pt w 2 20 1 21) 2 20 2 22) 2 20 4 23) := z5.pt (by decide)
  have z7 : c_Z 24 (c_pt (c_pt (c_pt w 2 20 1 21) 2 20 2 22) 2 20 4 23) := z6.le (by decide)
  have z8 : c_Z 24 (c_pt (c_pt (c_pt (c_pt w 2 20 1 21) 2 20 2 22) 2 20 4 23) 2 20 5 24) := z7.pt (by decide)
  have z9 : c_Z 25 (c_pt (c_pt (c_pt (c_pt w 2 20 1 21) 2 20 2 22) 2 20 4 23) 2 20 5 24) := z8.le (by decide)
  have z10 : c_Z 25 (c_pt (c_pt (c_pt (c_pt (c_pt w 2 20 1 21) 2 20 2 22) 2 20 4 23) 2 20 5 24) 2 20 6 25) := z9.pt (by decide)
  have z11 : c_Z 26 (c_pt (c_pt (c_pt (c_pt (c_pt w 2 20 1 21) 2 20 2 22) 2 20 4 23) 2 20 5 24) 2 20 6 25) := z10.le (by decide)
  have z12 : c_Z 26 (c_pt (c_pt (c_pt (c_pt (c_pt (c_pt w 2 20 1 21) 2 20 2 22) 2 20 4 23) 2 20 5 24) 2 20 6 25) 2 20 7 26) := z11.pt (by decide)
  have z13 : c_Z 27 (c_pt (c_pt (c_pt (c_pt (c_pt (c_pt w 2 20 1 21) 2 20 2 22) 2 20 4 23) 2 20 5 24) 2 20 6 25) 2 20 7 26) := z12.le (by decide)
  have z14 : c_Z 27 (c_pt (c_pt (c_pt (c_pt (c_pt (c_pt (c_pt w 2 20 1 21) 2 20 2 22) 2 20 4 23) 2 20 5 24) 2 20 6 25) 2 20 7 26) 2 20 8 27) := z13.pt (by decide)
  have z15 : c_Z 28 (c_pt (c_pt (c_pt (c_pt (c_pt (c_pt (c_pt w 2 20 1 21) 2 20 2 22) 2 20 4 23) 2 20 5 24) 2 20 6 25) 2 20 7 26) 2 20 8 27) := z14.le (by decide)
  have z16 : c_Z 28 (c_pt (c_pt (c_pt (c_pt (c_pt (c_pt (c_pt (c_pt w 2 20 1 21) 2 20 2 22) 2 20 4 23) 2 20 5 24) 2 20 6 25) 2 20 7 26) 2 20 8 27) 2 20 9 28) := z15.pt (by decide)
  have z17 : c_Z 29 (c_pt (c_pt (c_pt (c_pt (c_pt (c_pt (c_pt (c_pt w 2 20 1 21) 2 20 2 22) 2 20 4 23) 2 20 5 24) 2 20 6 25) 2 20 7 26) 2 20 8 27) 2 20 9 28) := z16.le (by decide)
  have z18 : c_Z 29 (c_pt (c_pt (c_pt (c_pt (c_pt (c_pt (c_pt (c_pt (c_pt w 2 20 1 21) 2 20 2 22) 2 20 4 23) 2 20 5 24) 2 20 6 25) 2 20 7 26) 2 20 8 27) 2 20 9 28) 2 20 11 29) := z17.pt (by decide)
  have z19 : c_Z 30 (c_pt (c_pt (c_pt (c_pt (c_pt (c_pt (c_pt (c_pt (c_pt w 2 20 1 21) 2 20 2 22) 2 20 4 23) 2 20 5 24) 2 20 6 25) 2 20 7 26) 2 20 8 27) 2 20 9 28) 2 20 11 29) := z18.le (by decide)
  have z20 : c_Z 30 (c_pt (c_pt (c_pt (c_pt (c_pt (c_pt (c_pt (c_pt (c_pt (c_pt w 2 20 1 21) 2 20 2 22) 2 20 4 23) 2 20 5 24) 2 20 6 25) 2 20 7 26) 2 20 8 27) 2 20 9 28) 2 20 11 29) 2 20 12 30) := z19.pt (by decide)
  have z21 : c_Z 31 (c_pt (c_pt (c_pt (c_pt (c_pt (c_pt (c_pt (c_pt (c_pt (c_pt w 2 20 1 21) 2 20 2 22) 2 20 4 23) 2 20 5 24) 2 20 6 25) 2 20 7 26) 2 20 8 27) 2 20 9 28) 2 20 11 29) 2 20 12 30) := z20.le (by decide)
  have z22 : c_Z 31 (c_pt (c_pt (c_pt (c_pt (c_pt (c_pt (c_pt (c_pt (c_pt (c_pt (c_pt w 2 20 1 21) 2 20 2 22) 2 20 4 23) 2 20 5 24) 2 20 6 25) 2 20 7 26) 2 20 8 27) 2 20 9 28) 2 20 11 29) 2 20 12 30) 2 20 13 31) := z21.pt (by decide)
  have z23 : c_Z 32 (c_pt (c_pt (c_pt (c_pt (c_pt (c_pt (c_pt (c_pt (c_pt (c_pt (c_pt w 2 20 1 21) 2 20 2 22) 2 20 4 23) 2 20 5 24) 2 20 6 25) 2 20 7 26) 2 20 8 27) 2 20 9 28) 2 20 11 29) 2 20 12 30) 2 20 13 31) := z22.le (by decide)
  have z24 : c_Z 32 (c_pt (c_pt (c_pt (c_pt (c_pt (c_pt (c_pt (c_pt (c_pt (c_pt (c_pt (c_pt w 2 20 1 21) 2 20 2 22) 2 20 4 23) 2 20 5 24) 2 20 6 25) 2 20 7 26) 2 20 8 27) 2 20 9 28) 2 20 11 29) 2 20 12 30) 2 20 13 31) 2 20 15 32) := z23.pt (by decide)
  have z25 : c_Z 33 (c_pt (c_pt (c_pt (c_pt (c_pt (c_pt (c_pt (c_pt (c_pt (c_pt (c_pt (c_pt w 2 20 1 21) 2 20 2 22) 2 20 4 23) 2 20 5 24) 2 20 6 25) 2 20 7 26) 2 20 8 27) 2 20 9 28) 2 20 11 29) 2 20 12 30) 2 20 13 31) 2 20 15 32) := z24.le (by decide)
  have z26 : c_Z 33 (c_pt (c_pt (c_pt (c_pt (c_pt (c_pt (c_pt (c_pt (c_pt (c_pt (c_pt (c_pt (c_pt w 2 20 1 21) 2 20 2 22) 2 20 4 23) 2 20 5 24) 2 20 6 25) 2 20 7 26) 2 20 8 27) 2 20 9 28) 2 20 11 29) 2 20 12 30) 2 20 13 31) 2 20 15 32) 2 20 16 33) := z25.pt (by decide)
  have z27 : c_Z 34 (c_pt (c_pt (c_pt (c_pt (c_pt (c_pt (c_pt (c_pt (c_pt (c_pt (c_pt (c_pt (c_pt w 2 20 1 21) 2 20 2 22) 2 20 4 23) 2 20 5 24) 2 20 6 25) 2 20 7 26) 2 20 8 27) 2 20 9 28) 2 20 11 29) 2 20 12 30) 2 20 13 31) 2 20 15 32) 2 20 16 33) := z26.le (by decide)
  have z28 : c_Z 34 (c_pt (c_pt (c_pt (c_pt (c_pt (c_pt (c_pt (c_pt (c_pt (c_pt (c_pt (c_pt (c_pt (c_pt w 2 20 1 21) 2 20 2 22) 2 20 4 23) 2 20 5 24) 2 20 6 25) 2 20 7 26) 2 20 8 27) 2 20 9 28) 2 20 11 29) 2 20 12 30) 2 20 13 31) 2 20 15 32) 2 20 16 33) 2 20 17 34) := z27.pt (by decide)
  have z29 : c_Z 35 (c_pt (c_pt (c_pt (c_pt (c_pt (c_pt (c_pt (c_pt (c_pt (c_pt (c_pt (c_pt (c_pt (c_pt w 2 20 1 21) 2 20 2 22) 2 20 4 23) 2 20 5 24) 2 20 6 25) 2 20 7 26) 2 20 8 27) 2 20 9 28) 2 20 11 29) 2 20 12 30) 2 20 13 31) 2 20 15 32) 2 20 16 33) 2 20 17 34) := z28.le (by decide)
  have z30 : c_Z 35 (c_pt (c_pt (c_pt (c_pt (c_pt (c_pt (c_pt (c_pt (c_pt (c_pt (c_pt (c_pt (c_pt (c_pt (c_pt w 2 20 1 21) 2 20 2 22) 2 20 4 23) 2 20 5 24) 2 20 6 25) 2 20 7 26) 2 20 8 27) 2 20 9 28) 2 20 11 29) 2 20 12 30) 2 20 13 31) 2 20 15 32) 2 20 16 33) 2 20 17 34) 2 20 19 35) := z29.pt (by decide)
  exact z30
set_option maxHeartbeats 4000000 in
theorem cv_20 {w : q_Mem} (hz : c_Z 20 w) : q_Ev 1 15 198 mX2_init 20 true w [.ref 20] (fun r n' w' => r = none ∧ n' = 35 ∧ w' = ci_20 w) (fun _ _ _ => False) := by
  refine c_ev (by decide +kernel) rfl (Nat.le_of_ble_eq_true rfl) rfl ?_
  show p_Ex c_In 1 15 198 mX2_init 20 true (0, [some (.ref (20))], [], w) _ _
  refine pg_blk [(.aload_n 0, 1, 0, 0)] 1 [some (.ref (20))] [.ref (20)] w [] (by decide +kernel) (by refine gt_aload_n (r := 20) rfl ?_; exact gt_z rfl rfl rfl rfl rfl) trivial ?_
  refine p_Ex_obj (by decide) (by decide +kernel) (Nat.le_of_ble_eq_true rfl) (by decide) c_OW2 ?_
  refine pg_blk [(.aload_n 0, 1, 0, 0), (.bipush 6, 2, 0, 0)] 7 [some (.ref (20))] [.int (6), .ref (20)] w [] (by decide +kernel) (by refine gt_aload_n (r := 20) rfl ?_; refine gt_bipush (v := 6) (by decide +kernel) ?_; exact gt_z rfl rfl rfl rfl rfl) trivial ?_
  refine p_Ex_newarr (a := 14) (b := 192) (N := 6) (x := 14) (by decide) (by decide) (by decide) (by decide) (by decide) rfl ⟨(hz 21 (by decide)).1, (hz 21 (by decide)).2.1⟩ (by decide +kernel) c_AW14 ?_
  have z1 : c_Z 21 w := hz.le (by decide)
  refine p_Ex_putF (idx := 9) (x := 2) (k := 1) (fun _ _ _ _ _ h => h) (by decide) (by decide) (by decide +kernel) rfl rfl rfl (q_id_of rfl) (by decide +kernel) ?_
  show p_Ex c_In 1 14 192 mX2_init 21 true (12, [some (.ref (20))], [], (c_pt w 2 20 1 21)) _ _
  have z2 : c_Z 21 (c_pt w 2 20 1 21) := z1.pt (by decide)
  refine pg_blk [(.aload_n 0, 1, 0, 0), (.bipush 6, 2, 0, 0)] 15 [some (.ref (20))] [.int (6), .ref (20)] (c_pt w 2 20 1 21) [] (by decide +kernel) (by refine gt_aload_n (r := 20) rfl ?_; refine gt_bipush (v := 6) (by decide +kernel) ?_; exact gt_z rfl rfl rfl rfl rfl) trivial ?_
  refine p_Ex_newarr (a := 13) (b := 186) (N := 6) (x := 14) (by decide) (by decide) (by decide) (by decide) (by decide) rfl ⟨(z2 22 (by decide)).1, (z2 22 (by decide)).2.1⟩ (by decide +kernel) c_AW14 ?_
  have z3 : c_Z 22 (c_pt w 2 20 1 21) := z2.le (by decide)
  refine p_Ex_putF (idx := 15) (x := 2) (k := 2) (fun _ _ _ _ _ h => h) (by decide) (by decide) (by decide +kernel) rfl rfl rfl (q_id_of rfl) (by decide +kernel) ?_
  show p_Ex c_In 1 13 186 mX2_init 22 true (20, [some (.ref (20))], [], (c_pt (c_pt w 2 20 1 21) 2 20 2 22)) _ _
  have z4 : c_Z 22 (c_pt (c_pt w 2 20 1 21) 2 20 2 22) := z3.pt (by decide)
  refine pg_blk [(.aload_n 0, 1, 0, 0), (.bipush 10, 2, 0, 0)] 23 [some (.ref (20))] [.int (10), .ref (20)] (c_pt (c_pt w 2 20 1 21) 2 20 2 22) [] (by decide +kernel) (by refine gt_aload_n (r := 20) rfl ?_; refine gt_bipush (v := 10) (by decide +kernel) ?_; exact gt_z rfl rfl rfl rfl rfl) trivial ?_
  refine p_Ex_newarr (a := 12) (b := 176) (N := 10) (x := 14) (by decide) (by decide) (by decide) (by decide) (by decide) rfl ⟨(z4 23 (by decide)).1, (z4 23 (by decide)).2.1⟩ (by decide +kernel) c_AW14 ?_
  have z5 : c_Z 23 (c_pt (c_pt w 2 20 1 21) 2 20 2 22) := z4.le (by decide)
  refine p_Ex_putF (idx := 18) (x := 2) (k := 4) (fun _ _ _ _ _ h => h) (by decide) (by decide) (by decide +kernel) rfl rfl rfl (q_id_of rfl) (by decide +kernel) ?_
  show p_Ex c_In 1 12 176 mX2_init 23 true (28, [some (.ref (20))], [], (c_pt (c_pt (c_pt w 2 20 1 21) 2 20 2 22) 2 20 4 23)) _ _
  have z6 : c_Z 23 (c_pt (c_pt (c_pt w 2 20 1 21) 2 20 2 22) 2 20 4 23) := z5.pt (by decide)
  refine pg_blk [(.aload_n 0, 1, 0, 0), (.bipush 10, 2, 0, 0)] 31 [some (.ref (20))] [.int (10), .ref (20)] (c_pt (c_pt (c_pt w 2 20 1 21) 2 20 2 22) 2 20 4 23) [] (by decide +kernel) (by refine gt_aload_n (r := 20) rfl ?_; refine gt_bipush (v := 10) (by decide +kernel) ?_; exact gt_z rfl rfl rfl rfl rfl) trivial ?_
  refine p_Ex_newarr (a := 11) (b := 166) (N := 10) (x := 14) (by decide) (by decide) (by decide) (by decide) (by decide) rfl ⟨(z6 24 (by decide)).1, (z6 24 (by decide)).2.1⟩ (by decide +kernel) c_AW14 ?_
  have z7 : c_Z 24 (c_pt (c_pt (c_pt w 2 20 1 21) 2 20 2 22) 2 20 4 23) := z6.le (by decide)
  refine p_Ex_putF (idx := 21) (x := 2) (k := 5) (fun _ _ _ _ _ h => h) (by decide) (by decide) (by decide +kernel) rfl rfl rfl (q_id_of rfl) (by decide +kernel) ?_
  show p_Ex c_In 1 11 166 mX2_init 24 true (36, [some (.ref (20))], [], (c_pt (c_pt (c_pt (c_pt w 2 20 1 21) 2 20 2 22) 2 20 4 23) 2 20 5 24)) _ _
  have z8 : c_Z 24 (c_pt (c_pt (c_pt (c_pt w 2 20 1 21) 2 20 2 22) 2 20 4 23) 2 20 5 24) := z7.pt (by decide)
  refine pg_blk [(.aload_n 0, 1, 0, 0), (.bipush 10, 2, 0, 0)] 39 [some (.ref (20))] [.int (10), .ref (20)] (c_pt (c_pt (c_pt (c_pt w 2 20 1 21) 2 20 2 22) 2 20 4 23) 2 20 5 24) [] (by decide +kernel) (by refine gt_aload_n (r := 20) rfl ?_; refine gt_bipush (v := 10) (by decide +kernel) ?_; exact gt_z rfl rfl rfl rfl rfl) trivial ?_
  refine p_Ex_newarr (a := 10) (b := 156) (N := 10) (x := 14) (by decide) (by decide) (by decide) (by decide) (by decide) rfl ⟨(z8 25 (by decide)).1, (z8 25 (by decide)).2.1⟩ (by decide +kernel) c_AW14 ?_
  have z9 : c_Z 25 (c_pt (c_pt (c_pt (c_pt w 2 20 1 21) 2 20 2 22) 2 20 4 23) 2 20 5 24) := z8.le (by decide)
  refine p_Ex_putF (idx := 24) (x := 2) (k := 6) (fun _ _ _ _ _ h => h) (by decide) (by decide) (by decide +kernel) rfl rfl rfl (q_id_of rfl) (by decide +kernel) ?_
  show p_Ex c_In 1 10 156 mX2_init 25 true (44, [some (.ref (20))], [], (c_pt (c_pt (c_pt (c_pt (c_pt w 2 20 1 21) 2 20 2 22) 2 20 4 23) 2 20 5 24) 2 20 6 25)) _ _
  have z10 : c_Z 25 (c_pt (c_pt (c_pt (c_pt (c_pt w 2 20 1 21) 2 20 2 22) 2 20 4 23) 2 20 5 24) 2 20 6 25) := z9.pt (by decide)
  refine pg_blk [(.aload_n 0, 1, 0, 0), (.bipush 10, 2, 0, 0)] 47 [some (.ref (20))] [.int (10), .ref (20)] (c_pt (c_pt (c_pt (c_pt (c_pt w 2 20 1 21) 2 20 2 22) 2 20 4 23) 2 20 5 24) 2 20 6 25) [] (by decide +kernel) (by refine gt_aload_n (r := 20) rfl ?_; refine gt_bipush (v := 10) (by decide +kernel) ?_; exact gt_z rfl rfl rfl rfl rfl) trivial ?_
  refine p_Ex_newarr (a := 9) (b := 146) (N := 10) (x := 14) (by decide) (by decide) (by decide) (by decide) (by decide) rfl ⟨(z10 26 (by decide)).1, (z10 26 (by decide)).2.1⟩ (by decide +kernel) c_AW14 ?_
  have z11 : c_Z 26 (c_pt (c_pt (c_pt (c_pt (c_pt w 2 20 1 21) 2 20 2 22) 2 20 4 23) 2 20 5 24) 2 20 6 25) := z10.le (by decide)
  refine p_Ex_putF (idx := 27) (x := 2) (k := 7) (fun _ _ _ _ _ h => h) (by decide) (by decide) (by decide +kernel) rfl rfl rfl (q_id_of rfl) (by decide +kernel) ?_
  show p_Ex c_In 1 9 146 mX2_init 26 true (52, [some (.ref (20))], [], (c_pt (c_pt (c_pt (c_pt (c_pt (c_pt w 2 20 1 21) 2 20 2 22) 2 20 4 23) 2 20 5 24) 2 20 6 25) 2 20 7 26)) _ _
  have z12 : c_Z 26 (c_pt (c_pt (c_pt (c_pt (c_pt (c_pt w 2 20 1 21) 2 20 2 22) 2 20 4 23) 2 20 5 24) 2 20 6 25) 2 20 7 26) := z11.pt (by decide)
  refine pg_blk [(.aload_n 0, 1, 0, 0), (.bipush 10, 2, 0, 0)] 55 [some (.ref (20))] [.int (10), .ref (20)] (c_pt (c_pt (c_pt (c_pt (c_pt (c_pt w 2 20 1 21) 2 20 2 22) 2 20 4 23) 2 20 5 24) 2 20 6 25) 2 20 7 26) [] (by decide +kernel) (by refine gt_aload_n (r := 20) rfl ?_; refine gt_bipush (v := 10) (by decide +kernel) ?_; exact gt_z rfl rfl rfl rfl rfl) trivial ?_
  refine p_Ex_newarr (a := 8) (b := 136) (N := 10) (x := 14) (by decide) (by decide) (by decide) (by decide) (by decide) rfl ⟨(z12 27 (by decide)).1, (z12 27 (by decide)).2.1⟩ (by decide +kernel) c_AW14 ?_
  have z13 : c_Z 27 (c_pt (c_pt (c_pt (c_pt (c_pt (c_pt w 2 20 1 21) 2 20 2 22) 2 20 4 23) 2 20 5 24) 2 20 6 25) 2 20 7 26) := z12.le (by decide)
  refine p_Ex_putF (idx := 30) (x := 2) (k := 8) (fun _ _ _ _ _ h => h) (by decide) (by decide) (by decide +kernel) rfl rfl rfl (q_id_of rfl) (by decide +kernel) ?_
  show p_Ex c_In 1 8 136 mX2_init 27 true (60, [some (.ref (20))], [], (c_pt (c_pt (c_pt (c_pt (c_pt (c_pt (c_pt w 2 20 1 21) 2 20 2 22) 2 20 4 23) 2 20 5 24) 2 20 6 25) 2 20 7 26) 2 20 8 27)) _ _
  have z14 : c_Z 27 (c_pt (c_pt (c_pt (c_pt (c_pt (c_pt (c_pt w 2 20 1 21) 2 20 2 22) 2 20 4 23) 2 20 5 24) 2 20 6 25) 2 20 7 26) 2 20 8 27) := z13.pt (by decide)
  refine pg_blk [(.aload_n 0, 1, 0, 0), (.bipush 10, 2, 0, 0)] 63 [some (.ref (20))] [.int (10), .ref (20)] (c_pt (c_pt (c_pt (c_pt (c_pt (c_pt (c_pt w 2 20 1 21) 2 20 2 22) 2 20 4 23) 2 20 5 24) 2 20 6 25) 2 20 7 26) 2 20 8 27) [] (by decide +kernel) (by refine gt_aload_n (r := 20) rfl ?_; refine gt_bipush (v := 10) (by decide +kernel) ?_; exact gt_z rfl rfl rfl rfl rfl) trivial ?_
  refine p_Ex_newarr (a := 7) (b := 126) (N := 10) (x := 14) (by decide) (by decide) (by decide) (by decide) (by decide) rfl ⟨(z14 28 (by decide)).1, (z14 28 (by decide)).2.1⟩ (by decide +kernel) c_AW14 ?_
  have z15 : c_Z 28 (c_pt (c_pt (c_pt (c_pt (c_pt (c_pt (c_pt w 2 20 1 21) 2 20 2 22) 2 20 4 23) 2 20 5 24) 2 20 6 25) 2 20 7 26) 2 20 8 27) := z14.le (by decide)
  refine p_Ex_putF (idx := 33) (x := 2) (k := 9) (fun _ _ _ _ _ h => h) (by decide) (by decide) (by decide +kernel) rfl rfl rfl (q_id_of rfl) (by decide +kernel) ?_
  show p_Ex c_In 1 7 126 mX2_init 28 true (68, [some (.ref (20))], [], (c_pt (c_pt (c_pt (c_pt (c_pt (c_pt (c_pt (c_pt w 2 20 1 21) 2 20 2 22) 2 20 4 23) 2 20 5 24) 2 20 6 25) 2 20 7 26) 2 20 8 27) 2 20 9 28)) _ _
  have z16 : c_Z 28 (c_pt (c_pt (c_pt (c_pt (c_pt (c_pt (c_pt (c_pt w 2 20 1 21) 2 20 2 22) 2 20 4 23) 2 20 5 24) 2 20 6 25) 2 20 7 26) 2 20 8 27) 2 20 9 28) := z15.pt (by decide)
  refine pg_blk [(.aload_n 0, 1, 0, 0), (.bipush 48, 2, 0, 0)] 71 [some (.ref (20))] [.int (48), .ref (20)] (c_pt (c_pt (c_pt (c_pt (c_pt (c_pt (c_pt (c_pt w 2 20 1 21) 2 20 2 22) 2 20 4 23) 2 20 5 24) 2 20 6 25) 2 20 7 26) 2 20 8 27) 2 20 9 28) [] (by decide +kernel) (by refine gt_aload_n (r := 20) rfl ?_; refine gt_bipush (v := 48) (by decide +kernel) ?_; exact gt_z rfl rfl rfl rfl rfl) trivial ?_
  refine p_Ex_newarr (a := 6) (b := 78) (N := 48) (x := 14) (by decide) (by decide) (by decide) (by decide) (by decide) rfl ⟨(z16 29 (by decide)).1, (z16 29 (by decide)).2.1⟩ (by decide +kernel) c_AW14 ?_
  have z17 : c_Z 29 (c_pt (c_pt (c_pt (c_pt (c_pt (c_pt (c_pt (c_pt w 2 20 1 21) 2 20 2 22) 2 20 4 23) 2 20 5 24) 2 20 6 25) 2 20 7 26) 2 20 8 27) 2 20 9 28) := z16.le (by decide)
  refine p_Ex_putF (idx := 36) (x := 2) (k := 11) (fun _ _ _ _ _ h => h) (by decide) (by decide) (by decide +kernel) rfl rfl rfl (q_id_of rfl) (by decide +kernel) ?_
  show p_Ex c_In 1 6 78 mX2_init 29 true (76, [some (.ref (20))], [], (c_pt (c_pt (c_pt (c_pt (c_pt (c_pt (c_pt (c_pt (c_pt w 2 20 1 21) 2 20 2 22) 2 20 4 23) 2 20 5 24) 2 20 6 25) 2 20 7 26) 2 20 8 27) 2 20 9 28) 2 20 11 29)) _ _
  have z18 : c_Z 29 (c_pt (c_pt (c_pt (c_pt (c_pt (c_pt (c_pt (c_pt (c_pt w 2 20 1 21) 2 20 2 22) 2 20 4 23) 2 20 5 24) 2 20 6 25) 2 20 7 26) 2 20 8 27) 2 20 9 28) 2 20 11 29) := z17.pt (by decide)
  refine pg_blk [(.aload_n 0, 1, 0, 0), (.bipush 20, 2, 0, 0)] 79 [some (.ref (20))] [.int (20), .ref (20)] (c_pt (c_pt (c_pt (c_pt (c_pt (c_pt (c_pt (c_pt (c_pt w 2 20 1 21) 2 20 2 22) 2 20 4 23) 2 20 5 24) 2 20 6 25) 2 20 7 26) 2 20 8 27) 2 20 9 28) 2 20 11 29) [] (by decide +kernel) (by refine gt_aload_n (r := 20) rfl ?_; refine gt_bipush (v := 20) (by decide +kernel) ?_; exact gt_z rfl rfl rfl rfl rfl) trivial ?_
  refine p_Ex_newarr (a := 5) (b := 58) (N := 20) (x := 14) (by decide) (by decide) (by decide) (by decide) (by decide) rfl ⟨(z18 30 (by decide)).1, (z18 30 (by decide)).2.1⟩ (by decide +kernel) c_AW14 ?_
  have z19 : c_Z 30 (c_pt (c_pt (c_pt (c_pt (c_pt (c_pt (c_pt (c_pt (c_pt w 2 20 1 21) 2 20 2 22) 2 20 4 23) 2 20 5 24) 2 20 6 25) 2 20 7 26) 2 20 8 27) 2 20 9 28) 2 20 11 29) := z18.le (by decide)
  refine p_Ex_putF (idx := 39) (x := 2) (k := 12) (fun _ _ _ _ _ h => h) (by decide) (by decide) (by decide +kernel) rfl rfl rfl (q_id_of rfl) (by decide +kernel) ?_
  show p_Ex c_In 1 5 58 mX2_init 30 true (84, [some (.ref (20))], [], (c_pt (c_pt (c_pt (c_pt (c_pt (c_pt (c_pt (c_pt (c_pt (c_pt w 2 20 1 21) 2 20 2 22) 2 20 4 23) 2 20 5 24) 2 20 6 25) 2 20 7 26) 2 20 8 27) 2 20 9 28) 2 20 11 29) 2 20 12 30)) _ _
  have z20 : c_Z 30 (c_pt (c_pt (c_pt (c_pt (c_pt (c_pt (c_pt (c_pt (c_pt (c_pt w 2 20 1 21) 2 20 2 22) 2 20 4 23) 2 20 5 24) 2 20 6 25) 2 20 7 26) 2 20 8 27) 2 20 9 28) 2 20 11 29) 2 20 12 30) := z19.pt (by decide)
  refine pg_blk [(.aload_n 0, 1, 0, 0), (.iconst 4, 1, 0, 0)] 86 [some (.ref (20))] [.int (4), .ref (20)] (c_pt (c_pt (c_pt (c_pt (c_pt (c_pt (c_pt (c_pt (c_pt (c_pt w 2 20 1 21) 2 20 2 22) 2 20 4 23) 2 20 5 24) 2 20 6 25) 2 20 7 26) 2 20 8 27) 2 20 9 28) 2 20 11 29) 2 20 12 30) [] (by decide +kernel) (by refine gt_aload_n (r := 20) rfl ?_; refine gt_iconst (v := 4) (by decide) ?_; exact gt_z rfl rfl rfl rfl rfl) trivial ?_
  refine p_Ex_newarr (a := 4) (b := 54) (N := 4) (x := 14) (by decide) (by decide) (by decide) (by decide) (by decide) rfl ⟨(z20 31 (by decide)).1, (z20 31 (by decide)).2.1⟩ (by decide +kernel) c_AW14 ?_
  have z21 : c_Z 31 (c_pt (c_pt (c_pt (c_pt (c_pt (c_pt (c_pt (c_pt (c_pt (c_pt w 2 20 1 21) 2 20 2 22) 2 20 4 23) 2 20 5 24) 2 20 6 25) 2 20 7 26) 2 20 8 27) 2 20 9 28) 2 20 11 29) 2 20 12 30) := z20.le (by decide)
  refine p_Ex_putF (idx := 42) (x := 2) (k := 13) (fun _ _ _ _ _ h => h) (by decide) (by decide) (by decide +kernel) rfl rfl rfl (q_id_of rfl) (by decide +kernel) ?_
  show p_Ex c_In 1 4 54 mX2_init 31 true (91, [some (.ref (20))], [], (c_pt (c_pt (c_pt (c_pt (c_pt (c_pt (c_pt (c_pt (c_pt (c_pt (c_pt w 2 20 1 21) 2 20 2 22) 2 20 4 23) 2 20 5 24) 2 20 6 25) 2 20 7 26) 2 20 8 27) 2 20 9 28) 2 20 11 29) 2 20 12 30) 2 20 13 31)) _ _
  have z22 : c_Z 31 (c_pt (c_pt (c_pt (c_pt (c_pt (c_pt (c_pt (c_pt (c_pt (c_pt (c_pt w 2 20 1 21) 2 20 2 22) 2 20 4 23) 2 20 5 24) 2 20 6 25) 2 20 7 26) 2 20 8 27) 2 20 9 28) 2 20 11 29) 2 20 12 30) 2 20 13 31) := z21.pt (by decide)
  refine pg_blk [(.aload_n 0, 1, 0, 0), (.bipush 6, 2, 0, 0)] 94 [some (.ref (20))] [.int (6), .ref (20)] (c_pt (c_pt (c_pt (c_pt (c_pt (c_pt (c_pt (c_pt (c_pt (c_pt (c_pt w 2 20 1 21) 2 20 2 22) 2 20 4 23) 2 20 5 24) 2 20 6 25) 2 20 7 26) 2 20 8 27) 2 20 9 28) 2 20 11 29) 2 20 12 30) 2 20 13 31) [] (by decide +kernel) (by refine gt_aload_n (r := 20) rfl ?_; refine gt_bipush (v := 6) (by decide +kernel) ?_; exact gt_z rfl rfl rfl rfl rfl) trivial ?_
  refine p_Ex_newarr (a := 3) (b := 48) (N := 6) (x := 14) (by decide) (by decide) (by decide) (by decide) (by decide) rfl ⟨(z22 32 (by decide)).1, (z22 32 (by decide)).2.1⟩ (by decide +kernel) c_AW14 ?_
  have z23 : c_Z 32 (c_pt (c_pt (c_pt (c_pt (c_pt (c_pt (c_pt (c_pt (c_pt (c_pt (c_pt w 2 20 1 21) 2 20 2 22) 2 20 4 23) 2 20 5 24) 2 20 6 25) 2 20 7 26) 2 20 8 27) 2 20 9 28) 2 20 11 29) 2 20 12 30) 2 20 13 31) := z22.le (by decide)
  refine p_Ex_putF (idx := 45) (x := 2) (k := 15) (fun _ _ _ _ _ h => h) (by decide) (by decide) (by decide +kernel) rfl rfl rfl (q_id_of rfl) (by decide +kernel) ?_
  show p_Ex c_In 1 3 48 mX2_init 32 true (99, [some (.ref (20))], [], (c_pt (c_pt (c_pt (c_pt (c_pt (c_pt (c_pt (c_pt (c_pt (c_pt (c_pt (c_pt w 2 20 1 21) 2 20 2 22) 2 20 4 23) 2 20 5 24) 2 20 6 25) 2 20 7 26) 2 20 8 27) 2 20 9 28) 2 20 11 29) 2 20 12 30) 2 20 13 31) 2 20 15 32)) _ _
  have z24 : c_Z 32 (c_pt (c_pt (c_pt (c_pt (c_pt (c_pt (c_pt (c_pt (c_pt (c_pt (c_pt (c_pt w 2 20 1 21) 2 20 2 22) 2 20 4 23) 2 20 5 24) 2 20 6 25) 2 20 7 26) 2 20 8 27) 2 20 9 28) 2 20 11 29) 2 20 12 30) 2 20 13 31) 2 20 15 32) := z23.pt (by decide)
  refine pg_blk [(.aload_n 0, 1, 0, 0), (.bipush 6, 2, 0, 0)] 102 [some (.ref (20))] [.int (6), .ref (20)] (c_pt (c_pt (c_pt (c_pt (c_pt (c_pt (c_pt (c_pt (c_pt (c_pt (c_pt (c_pt w 2 20 1 21) 2 20 2 22) 2 20 4 23) 2 20 5 24) 2 20 6 25) 2 20 7 26) 2 20 8 27) 2 20 9 28) 2 20 11 29) 2 20 12 30) 2 20 13 31) 2 20 15 32) [] (by decide +kernel) (by refine gt_aload_n (r := 20) rfl ?_; refine gt_bipush (v := 6) (by decide +kernel) ?_; exact gt_z rfl rfl rfl rfl rfl) trivial ?_
  refine p_Ex_newarr (a := 2) (b := 42) (N := 6) (x := 14) (by decide) (by decide) (by decide) (by decide) (by decide) rfl ⟨(z24 33 (by decide)).1, (z24 33 (by decide)).2.1⟩ (by decide +kernel) c_AW14 ?_
  have z25 : c_Z 33 (c_pt (c_pt (c_pt (c_pt (c_pt (c_pt (c_pt (c_pt (c_pt (c_pt (c_pt (c_pt w 2 20 1 21) 2 20 2 22) 2 20 4 23) 2 20 5 24) 2 20 6 25) 2 20 7 26) 2 20 8 27) 2 20 9 28) 2 20 11 29) 2 20 12 30) 2 20 13 31) 2 20 15 32) := z24.le (by decide)
  refine p_Ex_putF (idx := 48) (x := 2) (k := 16) (fun _ _ _ _ _ h => h) (by decide) (by decide) (by decide +kernel) rfl rfl rfl (q_id_of rfl) (by decide +kernel) ?_
  show p_Ex c_In 1 2 42 mX2_init 33 true (107, [some (.ref (20))], [], (c_pt (c_pt (c_pt (c_pt (c_pt (c_pt (c_pt (c_pt (c_pt (c_pt (c_pt (c_pt (c_pt w 2 20 1 21) 2 20 2 22) 2 20 4 23) 2 20 5 24) 2 20 6 25) 2 20 7 26) 2 20 8 27) 2 20 9 28) 2 20 11 29) 2 20 12 30) 2 20 13 31) 2 20 15 32) 2 20 16 33)) _ _
  have z26 : c_Z 33 (c_pt (c_pt (c_pt (c_pt (c_pt (c_pt (c_pt (c_pt (c_pt (c_pt (c_pt (c_pt (c_pt w 2 20 1 21) 2 20 2 22) 2 20 4 23) 2 20 5 24) 2 20 6 25) 2 20 7 26) 2 20 8 27) 2 20 9 28) 2 20 11 29) 2 20 12 30) 2 20 13 31) 2 20 15 32) 2 20 16 33) := z25.pt (by decide)
  refine pg_blk [(.aload_n 0, 1, 0, 0), (.bipush 6, 2, 0, 0)] 110 [some (.ref (20))] [.int (6), .ref (20)] (c_pt (c_pt (c_pt (c_pt (c_pt (c_pt (c_pt (c_pt (c_pt (c_pt (c_pt (c_pt (c_pt w 2 20 1 21) 2 20 2 22) 2 20 4 23) 2 20 5 24) 2 20 6 25) 2 20 7 26) 2 20 8 27) 2 20 9 28) 2 20 11 29) 2 20 12 30) 2 20 13 31) 2 20 15 32) 2 20 16 33) [] (by decide +kernel) (by refine gt_aload_n (r := 20) rfl ?_; refine gt_bipush (v := 6) (by decide +kernel) ?_; exact gt_z rfl rfl rfl rfl rfl) trivial ?_
  refine p_Ex_newarr (a := 1) (b := 36) (N := 6) (x := 14) (by decide) (by decide) (by decide) (by decide) (by decide) rfl ⟨(z26 34 (by decide)).1, (z26 34 (by decide)).2.1⟩ (by decide +kernel) c_AW14 ?_
  have z27 : c_Z 34 (c_pt (c_pt (c_pt (c_pt (c_pt (c_pt (c_pt (c_pt (c_pt (c_pt (c_pt (c_pt (c_pt w 2 20 1 21) 2 20 2 22) 2 20 4 23) 2 20 5 24) 2 20 6 25) 2 20 7 26) 2 20 8 27) 2 20 9 28) 2 20 11 29) 2 20 12 30) 2 20 13 31) 2 20 15 32) 2 20 16 33) := z26.le (by decide)
  refine p_Ex_putF (idx := 51) (x := 2) (k := 17) (fun _ _ _ _ _ h => h) (by decide) (by decide) (by decide +kernel) rfl rfl rfl (q_id_of rfl) (by decide +kernel) ?_
  show p_Ex c_In 1 1 36 mX2_init 34 true (115, [some (.ref (20))], [], (c_pt (c_pt (c_pt (c_pt (c_pt (c_pt (c_pt (c_pt (c_pt (c_pt (c_pt (c_pt (c_pt (c_pt w 2 20 1 21) 2 20 2 22) 2 20 4 23) 2 20 5 24) 2 20 6 25) 2 20 7 26) 2 20 8 27) 2 20 9 28) 2 20 11 29) 2 20 12 30) 2 20 13 31) 2 20 15 32) 2 20 16 33) 2 20 17 34)) _ _
  have z28 : c_Z 34 (c_pt (c_pt (c_pt (c_pt (c_pt (c_pt (c_pt (c_pt (c_pt (c_pt (c_pt (c_pt (c_pt (c_pt w 2 20 1 21) 2 20 2 22) 2 20 4 23) 2 20 5 24) 2 20 6 25) 2 20 7 26) 2 20 8 27) 2 20 9 28) 2 20 11 29) 2 20 12 30) 2 20 13 31) 2 20 15 32) 2 20 16 33) 2 20 17 34) := z27.pt (by decide)
  refine pg_blk [(.aload_n 0, 1, 0, 0), (.bipush 36, 2, 0, 0)] 118 [some (.ref (20))] [.int (36), .ref (20)] (c_pt (c_pt (c_pt (c_pt (c_pt (c_pt (c_pt (c_pt (c_pt (c_pt (c_pt (c_pt (c_pt (c_pt w 2 20 1 21) 2 20 2 22) 2 20 4 23) 2 20 5 24) 2 20 6 25) 2 20 7 26) 2 20 8 27) 2 20 9 28) 2 20 11 29) 2 20 12 30) 2 20 13 31) 2 20 15 32) 2 20 16 33) 2 20 17 34) [] (by decide +kernel) (by refine gt_aload_n (r := 20) rfl ?_; refine gt_bipush (v := 36) (by decide +kernel) ?_; exact gt_z rfl rfl rfl rfl rfl) trivial ?_
  refine p_Ex_newarr (a := 0) (b := 0) (N := 36) (x := 14) (by decide) (by decide) (by decide) (by decide) (by decide) rfl ⟨(z28 35 (by decide)).1, (z28 35 (by decide)).2.1⟩ (by decide +kernel) c_AW14 ?_
  have z29 : c_Z 35 (c_pt (c_pt (c_pt (c_pt (c_pt (c_pt (c_pt (c_pt (c_pt (c_pt (c_pt (c_pt (c_pt (c_pt w 2 20 1 21) 2 20 2 22) 2 20 4 23) 2 20 5 24) 2 20 6 25) 2 20 7 26) 2 20 8 27) 2 20 9 28) 2 20 11 29) 2 20 12 30) 2 20 13 31) 2 20 15 32) 2 20 16 33) 2 20 17 34) := z28.le (by decide)
  refine p_Ex_putF (idx := 54) (x := 2) (k := 19) (fun _ _ _ _ _ h => h) (by decide) (by decide) (by decide +kernel) rfl rfl rfl (q_id_of rfl) (by decide +kernel) ?_
  show p_Ex c_In 1 0 0 mX2_init 35 true (123, [some (.ref (20))], [], (c_pt (c_pt (c_pt (c_pt (c_pt (c_pt (c_pt (c_pt (c_pt (c_pt (c_pt (c_pt (c_pt (c_pt (c_pt w 2 20 1 21) 2 20 2 22) 2 20 4 23) 2 20 5 24) 2 20 6 25) 2 20 7 26) 2 20 8 27) 2 20 9 28) 2 20 11 29) 2 20 12 30) 2 20 13 31) 2 20 15 32) 2 20 16 33) 2 20 17 34) 2 20 19 35)) _ _
  have z30 : c_Z 35 (c_pt (c_pt (c_pt (c_pt (c_pt (c_pt (c_pt (c_pt (c_pt (c_pt (c_pt (c_pt (c_pt (c_pt (c_pt w 2 20 1 21) 2 20 2 22) 2 20 4 23) 2 20 5 24) 2 20 6 25) 2 20 7 26) 2 20 8 27) 2 20 9 28) 2 20 11 29) 2 20 12 30) 2 20 13 31) 2 20 15 32) 2 20 16 33) 2 20 17 34) 2 20 19 35) := z29.pt (by decide)
  exact p_Ex_ret none (by decide +kernel) rfl ⟨rfl, rfl, rfl⟩
def ci_36 (w : q_Mem) : q_Mem := (cl_pl (c_pt (c_pt (c_pt w 5 36 0 37) 5 36 2 38) 5 36 3 39) 36)
theorem cz_36 {w : q_Mem} (hz : c_Z 36 w) : c_Z 39 (ci_36 w) := by
  unfold ci_36
  have z1 : c_Z 37 w := hz.le (by decide)
  have z2 : c_Z 37 (c_pt w 5 36 0 37) := z1.pt (by decide)
  have z3 : c_Z 38 (c_pt w 5 36 0 37) := z2.le (by decide)
  have z4 : c_Z 38 (c_pt (c_pt w 5 36 0 37) 5 36 2 38) := z3.pt (by decide)
  have z5 : c_Z 39 (c_pt (c_pt w 5 36 0 37) 5 36 2 38) := z4.le (by decide)
  have z6 : c_Z 39 (c_pt (c_pt (c_pt w 5 36 0 37) 5 36 2 38) 5 36 3 39) := z5.pt (by decide)
  have z7 : c_Z 39 (cl_pl (c_pt (c_pt (c_pt w 5 36 0 37) 5 36 2 38) 5 36 3 39) 36) := cl_Z z6 (by decide)
  exact z7
set_option maxHeartbeats 4000000 in
theorem cv_36 {w : q_Mem} (hz : c_Z 36 w) : q_Ev 4 3 197 mX5_init 36 true w [.ref 36] (fun r n' w' => r = none ∧ n' = 39 ∧ w' = ci_36 w) (fun _ _ _ => False) := by
  refine c_ev (by decide +kernel) rfl (Nat.le_of_ble_eq_true rfl) rfl ?_
  show p_Ex c_In 4 3 197 mX5_init 36 true (0, [some (.ref (36))], [], w) _ _
  refine pg_blk [(.aload_n 0, 1, 0, 0)] 1 [some (.ref (36))] [.ref (36)] w [] (by decide +kernel) (by refine gt_aload_n (r := 36) rfl ?_; exact gt_z rfl rfl rfl rfl rfl) trivial ?_
  refine p_Ex_obj (by decide) (by decide +kernel) (Nat.le_of_ble_eq_true rfl) (by decide) c_OW5 ?_
  refine pg_blk [(.aload_n 0, 1, 0, 0), (.sipush 150, 3, 0, 0)] 8 [some (.ref (36))] [.int (150), .ref (36)] w [] (by decide +kernel) (by refine gt_aload_n (r := 36) rfl ?_; refine gt_sipush (v := 150) (by decide +kernel) ?_; exact gt_z rfl rfl rfl rfl rfl) trivial ?_
  refine p_Ex_newarr (a := 2) (b := 47) (N := 150) (x := 14) (by decide) (by decide) (by decide) (by decide) (by decide) rfl ⟨(hz 37 (by decide)).1, (hz 37 (by decide)).2.1⟩ (by decide +kernel) c_AW14 ?_
  have z1 : c_Z 37 w := hz.le (by decide)
  refine p_Ex_putF (idx := 9) (x := 5) (k := 0) (fun _ _ _ _ _ h => h) (by decide) (by decide) (by decide +kernel) rfl rfl rfl (q_id_of rfl) (by decide +kernel) ?_
  show p_Ex c_In 4 2 47 mX5_init 37 true (13, [some (.ref (36))], [], (c_pt w 5 36 0 37)) _ _
  have z2 : c_Z 37 (c_pt w 5 36 0 37) := z1.pt (by decide)
  refine pg_blk [(.aload_n 0, 1, 0, 0), (.bipush 7, 2, 0, 0)] 16 [some (.ref (36))] [.int (7), .ref (36)] (c_pt w 5 36 0 37) [] (by decide +kernel) (by refine gt_aload_n (r := 36) rfl ?_; refine gt_bipush (v := 7) (by decide +kernel) ?_; exact gt_z rfl rfl rfl rfl rfl) trivial ?_
  refine p_Ex_newarr (a := 1) (b := 40) (N := 7) (x := 14) (by decide) (by decide) (by decide) (by decide) (by decide) rfl ⟨(z2 38 (by decide)).1, (z2 38 (by decide)).2.1⟩ (by decide +kernel) c_AW14 ?_
  have z3 : c_Z 38 (c_pt w 5 36 0 37) := z2.le (by decide)
  refine p_Ex_putF (idx := 15) (x := 5) (k := 2) (fun _ _ _ _ _ h => h) (by decide) (by decide) (by decide +kernel) rfl rfl rfl (q_id_of rfl) (by decide +kernel) ?_
  show p_Ex c_In 4 1 40 mX5_init 38 true (21, [some (.ref (36))], [], (c_pt (c_pt w 5 36 0 37) 5 36 2 38)) _ _
  have z4 : c_Z 38 (c_pt (c_pt w 5 36 0 37) 5 36 2 38) := z3.pt (by decide)
  refine pg_blk [(.aload_n 0, 1, 0, 0), (.bipush 40, 2, 0, 0)] 24 [some (.ref (36))] [.int (40), .ref (36)] (c_pt (c_pt w 5 36 0 37) 5 36 2 38) [] (by decide +kernel) (by refine gt_aload_n (r := 36) rfl ?_; refine gt_bipush (v := 40) (by decide +kernel) ?_; exact gt_z rfl rfl rfl rfl rfl) trivial ?_
  refine p_Ex_newarr (a := 0) (b := 0) (N := 40) (x := 14) (by decide) (by decide) (by decide) (by decide) (by decide) rfl ⟨(z4 39 (by decide)).1, (z4 39 (by decide)).2.1⟩ (by decide +kernel) c_AW14 ?_
  have z5 : c_Z 39 (c_pt (c_pt w 5 36 0 37) 5 36 2 38) := z4.le (by decide)
  refine p_Ex_putF (idx := 18) (x := 5) (k := 3) (fun _ _ _ _ _ h => h) (by decide) (by decide) (by decide +kernel) rfl rfl rfl (q_id_of rfl) (by decide +kernel) ?_
  show p_Ex c_In 4 0 0 mX5_init 39 true (29, [some (.ref (36))], [], (c_pt (c_pt (c_pt w 5 36 0 37) 5 36 2 38) 5 36 3 39)) _ _
  have z6 : c_Z 39 (c_pt (c_pt (c_pt w 5 36 0 37) 5 36 2 38) 5 36 3 39) := z5.pt (by decide)
  refine pg_blk [(.aload_n 0, 1, 0, 0)] 30 [some (.ref (36))] [.ref (36)] (c_pt (c_pt (c_pt w 5 36 0 37) 5 36 2 38) 5 36 3 39) [] (by decide +kernel) (by refine gt_aload_n (r := 36) rfl ?_; exact gt_z rfl rfl rfl rfl rfl) trivial ?_
  refine p_Ex_callV (d' := 3) (a' := 0) (b' := 0) (As := []) kX5_setPlain l_5_21 (by decide +kernel) (c_plain (d := 1) (o := 36) (by decide) (by decide) rfl rfl rfl) (q_id_of rfl) rfl (Nat.le_of_ble_eq_true rfl) (by decide) (Nat.zero_le _) (Nat.zero_le _) (fun _ r n' w' h => h.1) ?_ (fun _ _ _ h => h.elim)
  rintro r n' w' ⟨rfl, rfl, rfl⟩
  show p_Ex c_In 4 0 0 mX5_init 39 true (33, [some (.ref (36))], [], (cl_pl (c_pt (c_pt (c_pt w 5 36 0 37) 5 36 2 38) 5 36 3 39) 36)) _ _
  have z7 : c_Z 39 (cl_pl (c_pt (c_pt (c_pt w 5 36 0 37) 5 36 2 38) 5 36 3 39) 36) := cl_Z z6 (by decide)
  exact p_Ex_ret none (by decide +kernel) rfl ⟨rfl, rfl, rfl⟩
def ci_40 (w : q_Mem) : q_Mem := (cl_pl (c_pt (c_pt (c_pt w 5 40 0 41) 5 40 2 42) 5 40 3 43) 40)
theorem cz_40 {w : q_Mem} (hz : c_Z 40 w) : c_Z 43 (ci_40 w) := by
  unfold ci_40
  have z1 : c_Z 41 w := hz.le (by decide)
  have z2 : c_Z 41 (c_pt w 5 40 0 41) := z1.pt (by decide)
  have z3 : c_Z 42 (c_pt w 5 40 0 41) := z2.le (by decide)
  have z4 : c_Z 42 (c_pt (c_pt w 5 40 0 41) 5 40 2 42) := z3.pt (by decide)
  have z5 : c_Z 43 (c_pt (c_pt w 5 40 0 41) 5 40 2 42) := z4.le (by decide)
  have z6 : c_Z 43 (c_pt (c_pt (c_pt w 5 40 0 41) 5 40 2 42) 5 40 3 43) := z5.pt (by decide)
  have z7 : c_Z 43 (cl_pl (c_pt (c_pt (c_pt w 5 40 0 41) 5 40 2 42) 5 40 3 43) 40) := cl_Z z6 (by decide)
  exact z7
set_option maxHeartbeats 4000000 in
theorem cv_40 {w : q_Mem} (hz : c_Z 40 w) : q_Ev 4 3 197 mX5_init 40 true w [.ref 40] (fun r n' w' => r = none ∧ n' = 43 ∧ w' = ci_40 w) (fun _ _ _ => False) := by
  refine c_ev (by decide +kernel) rfl (Nat.le_of_ble_eq_true rfl) rfl ?_
  show p_Ex c_In 4 3 197 mX5_init 40 true (0, [some (.ref (40))], [], w) _ _
  refine pg_blk [(.aload_n 0, 1, 0, 0)] 1 [some (.ref (40))] [.ref (40)] w [] (by decide +kernel) (by refine gt_aload_n (r := 40) rfl ?_; exact gt_z rfl rfl rfl rfl rfl) trivial ?_
  refine p_Ex_obj (by decide) (by decide +kernel) (Nat.le_of_ble_eq_true rfl) (by decide) c_OW5 ?_
  refine pg_blk [(.aload_n 0, 1, 0, 0), (.sipush 150, 3, 0, 0)] 8 [some (.ref (40))] [.int (150), .ref (40)] w [] (by decide +kernel) (by refine gt_aload_n (r := 40) rfl ?_; refine gt_sipush (v := 150) (by decide +kernel) ?_; exact gt_z rfl rfl rfl rfl rfl) trivial ?_
  refine p_Ex_newarr (a := 2) (b := 47) (N := 150) (x := 14) (by decide) (by decide) (by decide) (by decide) (by decide) rfl ⟨(hz 41 (by decide)).1, (hz 41 (by decide)).2.1⟩ (by decide +kernel) c_AW14 ?_
  have z1 : c_Z 41 w := hz.le (by decide)
  refine p_Ex_putF (idx := 9) (x := 5) (k := 0) (fun _ _ _ _ _ h => h) (by decide) (by decide) (by decide +kernel) rfl rfl rfl (q_id_of rfl) (by decide +kernel) ?_
  show p_Ex c_In 4 2 47 mX5_init 41 true (13, [some (.ref (40))], [], (c_pt w 5 40 0 41)) _ _
  have z2 : c_Z 41 (c_pt w 5 40 0 41) := z1.pt (by decide)
  refine pg_blk [(.aload_n 0, 1, 0, 0), (.bipush 7, 2, 0, 0)] 16 [some (.ref (40))] [.int (7), .ref (40)] (c_pt w 5 40 0 41) [] (by decide +kernel) (by refine gt_aload_n (r := 40) rfl ?_; refine gt_bipush (v := 7) (by decide +kernel) ?_; exact gt_z rfl rfl rfl rfl rfl) trivial ?_
  refine p_Ex_newarr (a := 1) (b := 40) (N := 7) (x := 14) (by decide) (by decide) (by decide) (by decide) (by decide) rfl ⟨(z2 42 (by decide)).1, (z2 42 (by decide)).2.1⟩ (by decide +kernel) c_AW14 ?_
  have z3 : c_Z 42 (c_pt w 5 40 0 41) := z2.le (by decide)
  refine p_Ex_putF (idx := 15) (x := 5) (k := 2) (fun _ _ _ _ _ h => h) (by decide) (by decide) (by decide +kernel) rfl rfl rfl (q_id_of rfl) (by decide +kernel) ?_
  show p_Ex c_In 4 1 40 mX5_init 42 true (21, [some (.ref (40))], [], (c_pt (c_pt w 5 40 0 41) 5 40 2 42)) _ _
  have z4 : c_Z 42 (c_pt (c_pt w 5 40 0 41) 5 40 2 42) := z3.pt (by decide)
  refine pg_blk [(.aload_n 0, 1, 0, 0), (.bipush 40, 2, 0, 0)] 24 [some (.ref (40))] [.int (40), .ref (40)] (c_pt (c_pt w 5 40 0 41) 5 40 2 42) [] (by decide +kernel) (by refine gt_aload_n (r := 40) rfl ?_; refine gt_bipush (v := 40) (by decide +kernel) ?_; exact gt_z rfl rfl rfl rfl rfl) trivial ?_
  refine p_Ex_newarr (a := 0) (b := 0) (N := 40) (x := 14) (by decide) (by decide) (by decide) (by decide) (by decide) rfl ⟨(z4 43 (by decide)).1, (z4 43 (by decide)).2.1⟩ (by decide +kernel) c_AW14 ?_
  have z5 : c_Z 43 (c_pt (c_pt w 5 40 0 41) 5 40 2 42) := z4.le (by decide)
  refine p_Ex_putF (idx := 18) (x := 5) (k := 3) (fun _ _ _ _ _ h => h) (by decide) (by decide) (by decide +kernel) rfl rfl rfl (q_id_of rfl) (by decide +kernel) ?_
  show p_Ex c_In 4 0 0 mX5_init 43 true (29, [some (.ref (40))], [], (c_pt (c_pt (c_pt w 5 40 0 41) 5 40 2 42) 5 40 3 43)) _ _
  have z6 : c_Z 43 (c_pt (c_pt (c_pt w 5 40 0 41) 5 40 2 42) 5 40 3 43) := z5.pt (by decide)
  refine pg_blk [(.aload_n 0, 1, 0, 0)] 30 [some (.ref (40))] [.ref (40)] (c_pt (c_pt (c_pt w 5 40 0 41) 5 40 2 42) 5 40 3 43) [] (by decide +kernel) (by refine gt_aload_n (r := 40) rfl ?_; exact gt_z rfl rfl rfl rfl rfl) trivial ?_
  refine p_Ex_callV (d' := 3) (a' := 0) (b' := 0) (As := []) kX5_setPlain l_5_21 (by decide +kernel) (c_plain (d := 1) (o := 40) (by decide) (by decide) rfl rfl rfl) (q_id_of rfl) rfl (Nat.le_of_ble_eq_true rfl) (by decide) (Nat.zero_le _) (Nat.zero_le _) (fun _ r n' w' h => h.1) ?_ (fun _ _ _ h => h.elim)
  rintro r n' w' ⟨rfl, rfl, rfl⟩
  show p_Ex c_In 4 0 0 mX5_init 43 true (33, [some (.ref (40))], [], (cl_pl (c_pt (c_pt (c_pt w 5 40 0 41) 5 40 2 42) 5 40 3 43) 40)) _ _
  have z7 : c_Z 43 (cl_pl (c_pt (c_pt (c_pt w 5 40 0 41) 5 40 2 42) 5 40 3 43) 40) := cl_Z z6 (by decide)
  exact p_Ex_ret none (by decide +kernel) rfl ⟨rfl, rfl, rfl⟩
def ci_44 (w : q_Mem) : q_Mem := (c_pt (c_pt (c_pt w 1 44 1 45) 1 44 2 46) 1 44 3 47)
theorem cz_44 {w : q_Mem} (hz : c_Z 44 w) : c_Z 47 (ci_44 w) := by
  unfold ci_44
  have z1 : c_Z 45 w := hz.le (by decide)
  have z2 : c_Z 45 (c_pt w 1 44 1 45) := z1.pt (by decide)
  have z3 : c_Z 46 (c_pt w 1 44 1 45) := z2.le (by decide)
  have z4 : c_Z 46 (c_pt (c_pt w 1 44 1 45) 1 44 2 46) := z3.pt (by decide)
  have z5 : c_Z 47 (c_pt (c_pt w 1 44 1 45) 1 44 2 46) := z4.le (by decide)
  have z6 : c_Z 47 (c_pt (c_pt (c_pt w 1 44 1 45) 1 44 2 46) 1 44 3 47) := z5.pt (by decide)
  exact z6
set_option maxHeartbeats 4000000 in
theorem cv_44 {w : q_Mem} (hz : c_Z 44 w) : q_Ev 1 3 30 mX1_init 44 true w [.ref 44] (fun r n' w' => r = none ∧ n' = 47 ∧ w' = ci_44 w) (fun _ _ _ => False) := by
  refine c_ev (by decide +kernel) rfl (Nat.le_of_ble_eq_true rfl) rfl ?_
  show p_Ex c_In 1 3 30 mX1_init 44 true (0, [some (.ref (44))], [], w) _ _
  refine pg_blk [(.aload_n 0, 1, 0, 0)] 1 [some (.ref (44))] [.ref (44)] w [] (by decide +kernel) (by refine gt_aload_n (r := 44) rfl ?_; exact gt_z rfl rfl rfl rfl rfl) trivial ?_
  refine p_Ex_obj (by decide) (by decide +kernel) (Nat.le_of_ble_eq_true rfl) (by decide) c_OW1 ?_
  refine pg_blk [(.aload_n 0, 1, 0, 0), (.bipush 10, 2, 0, 0)] 7 [some (.ref (44))] [.int (10), .ref (44)] w [] (by decide +kernel) (by refine gt_aload_n (r := 44) rfl ?_; refine gt_bipush (v := 10) (by decide +kernel) ?_; exact gt_z rfl rfl rfl rfl rfl) trivial ?_
  refine p_Ex_newarr (a := 2) (b := 20) (N := 10) (x := 14) (by decide) (by decide) (by decide) (by decide) (by decide) rfl ⟨(hz 45 (by decide)).1, (hz 45 (by decide)).2.1⟩ (by decide +kernel) c_AW14 ?_
  have z1 : c_Z 45 w := hz.le (by decide)
  refine p_Ex_putF (idx := 9) (x := 1) (k := 1) (fun _ _ _ _ _ h => h) (by decide) (by decide) (by decide +kernel) rfl rfl rfl (q_id_of rfl) (by decide +kernel) ?_
  show p_Ex c_In 1 2 20 mX1_init 45 true (12, [some (.ref (44))], [], (c_pt w 1 44 1 45)) _ _
  have z2 : c_Z 45 (c_pt w 1 44 1 45) := z1.pt (by decide)
  refine pg_blk [(.aload_n 0, 1, 0, 0), (.bipush 10, 2, 0, 0)] 15 [some (.ref (44))] [.int (10), .ref (44)] (c_pt w 1 44 1 45) [] (by decide +kernel) (by refine gt_aload_n (r := 44) rfl ?_; refine gt_bipush (v := 10) (by decide +kernel) ?_; exact gt_z rfl rfl rfl rfl rfl) trivial ?_
  refine p_Ex_newarr (a := 1) (b := 10) (N := 10) (x := 14) (by decide) (by decide) (by decide) (by decide) (by decide) rfl ⟨(z2 46 (by decide)).1, (z2 46 (by decide)).2.1⟩ (by decide +kernel) c_AW14 ?_
  have z3 : c_Z 46 (c_pt w 1 44 1 45) := z2.le (by decide)
  refine p_Ex_putF (idx := 15) (x := 1) (k := 2) (fun _ _ _ _ _ h => h) (by decide) (by decide) (by decide +kernel) rfl rfl rfl (q_id_of rfl) (by decide +kernel) ?_
  show p_Ex c_In 1 1 10 mX1_init 46 true (20, [some (.ref (44))], [], (c_pt (c_pt w 1 44 1 45) 1 44 2 46)) _ _
  have z4 : c_Z 46 (c_pt (c_pt w 1 44 1 45) 1 44 2 46) := z3.pt (by decide)
  refine pg_blk [(.aload_n 0, 1, 0, 0), (.bipush 10, 2, 0, 0)] 23 [some (.ref (44))] [.int (10), .ref (44)] (c_pt (c_pt w 1 44 1 45) 1 44 2 46) [] (by decide +kernel) (by refine gt_aload_n (r := 44) rfl ?_; refine gt_bipush (v := 10) (by decide +kernel) ?_; exact gt_z rfl rfl rfl rfl rfl) trivial ?_
  refine p_Ex_newarr (a := 0) (b := 0) (N := 10) (x := 14) (by decide) (by decide) (by decide) (by decide) (by decide) rfl ⟨(z4 47 (by decide)).1, (z4 47 (by decide)).2.1⟩ (by decide +kernel) c_AW14 ?_
  have z5 : c_Z 47 (c_pt (c_pt w 1 44 1 45) 1 44 2 46) := z4.le (by decide)
  refine p_Ex_putF (idx := 18) (x := 1) (k := 3) (fun _ _ _ _ _ h => h) (by decide) (by decide) (by decide +kernel) rfl rfl rfl (q_id_of rfl) (by decide +kernel) ?_
  show p_Ex c_In 1 0 0 mX1_init 47 true (28, [some (.ref (44))], [], (c_pt (c_pt (c_pt w 1 44 1 45) 1 44 2 46) 1 44 3 47)) _ _
  have z6 : c_Z 47 (c_pt (c_pt (c_pt w 1 44 1 45) 1 44 2 46) 1 44 3 47) := z5.pt (by decide)
  exact p_Ex_ret none (by decide +kernel) rfl ⟨rfl, rfl, rfl⟩
def ci_48 (w : q_Mem) : q_Mem := (c_pt (c_pt (c_pt w 1 48 1 49) 1 48 2 50) 1 48 3 51)
theorem cz_48 {w : q_Mem} (hz : c_Z 48 w) : c_Z 51 (ci_48 w) := by
  unfold ci_48
  have z1 : c_Z 49 w := hz.le (by decide)
  have z2 : c_Z 49 (c_pt w 1 48 1 49) := z1.pt (by decide)
  have z3 : c_Z 50 (c_pt w 1 48 1 49) := z2.le (by decide)
  have z4 : c_Z 50 (c_pt (c_pt w 1 48 1 49) 1 48 2 50) := z3.pt (by decide)
  have z5 : c_Z 51 (c_pt (c_pt w 1 48 1 49) 1 48 2 50) := z4.le (by decide)
  have z6 : c_Z 51 (c_pt (c_pt (c_pt w 1 48 1 49) 1 48 2 50) 1 48 3 51) := z5.pt (by decide)
  exact z6
set_option maxHeartbeats 4000000 in
theorem cv_48 {w : q_Mem} (hz : c_Z 48 w) : q_Ev 1 3 30 mX1_init 48 true w [.ref 48] (fun r n' w' => r = none ∧ n' = 51 ∧ w' = ci_48 w) (fun _ _ _ => False) := by
  refine c_ev (by decide +kernel) rfl (Nat.le_of_ble_eq_true rfl) rfl ?_
  show p_Ex c_In 1 3 30 mX1_init 48 true (0, [some (.ref (48))], [], w) _ _
  refine pg_blk [(.aload_n 0, 1, 0, 0)] 1 [some (.ref (48))] [.ref (48)] w [] (by decide +kernel) (by refine gt_aload_n (r := 48) rfl ?_; exact gt_z rfl rfl rfl rfl rfl) trivial ?_
  refine p_Ex_obj (by decide) (by decide +kernel) (Nat.le_of_ble_eq_true rfl) (by decide) c_OW1 ?_
  refine pg_blk [(.aload_n 0, 1, 0, 0), (.bipush 10, 2, 0, 0)] 7 [some (.ref (48))] [.int (10), .ref (48)] w [] (by decide +kernel) (by refine gt_aload_n (r := 48) rfl ?_; refine gt_bipush (v := 10) (by decide +kernel) ?_; exact gt_z rfl rfl rfl rfl rfl) trivial ?_
  refine p_Ex_newarr (a := 2) (b := 20) (N := 10) (x := 14) (by decide) (by decide) (by decide) (by decide) (by decide) rfl ⟨(hz 49 (by decide)).1, (hz 49 (by decide)).2.1⟩ (by decide +kernel) c_AW14 ?_
  have z1 : c_Z 49 w := hz.le (by decide)
  refine p_Ex_putF (idx := 9) (x := 1) (k := 1) (fun _ _ _ _ _ h => h) (by decide) (by decide) (by decide +kernel) rfl rfl rfl (q_id_of rfl) (by decide +kernel) ?_
  show p_Ex c_In 1 2 20 mX1_init 49 true (12, [some (.ref (48))], [], (c_pt w 1 48 1 49)) _ _
  have z2 : c_Z 49 (c_pt w 1 48 1 49) := z1.pt (by decide)
  refine pg_blk [(.aload_n 0, 1, 0, 0), (.bipush 10, 2, 0, 0)] 15 [some (.ref (48))] [.int (10), .ref (48)] (c_pt w 1 48 1 49) [] (by decide +kernel) (by refine gt_aload_n (r := 48) rfl ?_; refine gt_bipush (v := 10) (by decide +kernel) ?_; exact gt_z rfl rfl rfl rfl rfl) trivial ?_
  refine p_Ex_newarr (a := 1) (b := 10) (N := 10) (x := 14) (by decide) (by decide) (by decide) (by decide) (by decide) rfl ⟨(z2 50 (by decide)).1, (z2 50 (by decide)).2.1⟩ (by decide +kernel) c_AW14 ?_
  have z3 : c_Z 50 (c_pt w 1 48 1 49) := z2.le (by decide)
  refine p_Ex_putF (idx := 15) (x := 1) (k := 2) (fun _ _ _ _ _ h => h) (by decide) (by decide) (by decide +kernel) rfl rfl rfl (q_id_of rfl) (by decide +kernel) ?_
  show p_Ex c_In 1 1 10 mX1_init 50 true (20, [some (.ref (48))], [], (c_pt (c_pt w 1 48 1 49) 1 48 2 50)) _ _
  have z4 : c_Z 50 (c_pt (c_pt w 1 48 1 49) 1 48 2 50) := z3.pt (by decide)
  refine pg_blk [(.aload_n 0, 1, 0, 0), (.bipush 10, 2, 0, 0)] 23 [some (.ref (48))] [.int (10), .ref (48)] (c_pt (c_pt w 1 48 1 49) 1 48 2 50) [] (by decide +kernel) (by refine gt_aload_n (r := 48) rfl ?_; refine gt_bipush (v := 10) (by decide +kernel) ?_; exact gt_z rfl rfl rfl rfl rfl) trivial ?_
  refine p_Ex_newarr (a := 0) (b := 0) (N := 10) (x := 14) (by decide) (by decide) (by decide) (by decide) (by decide) rfl ⟨(z4 51 (by decide)).1, (z4 51 (by decide)).2.1⟩ (by decide +kernel) c_AW14 ?_
  have z5 : c_Z 51 (c_pt (c_pt w 1 48 1 49) 1 48 2 50) := z4.le (by decide)
  refine p_Ex_putF (idx := 18) (x := 1) (k := 3) (fun _ _ _ _ _ h => h) (by decide) (by decide) (by decide +kernel) rfl rfl rfl (q_id_of rfl) (by decide +kernel) ?_
  show p_Ex c_In 1 0 0 mX1_init 51 true (28, [some (.ref (48))], [], (c_pt (c_pt (c_pt w 1 48 1 49) 1 48 2 50) 1 48 3 51)) _ _
  have z6 : c_Z 51 (c_pt (c_pt (c_pt w 1 48 1 49) 1 48 2 50) 1 48 3 51) := z5.pt (by decide)
  exact p_Ex_ret none (by decide +kernel) rfl ⟨rfl, rfl, rfl⟩
def ci_52 (w : q_Mem) : q_Mem := (c_pt (c_pt (c_pt w 9 52 0 53) 9 52 1 54) 9 52 2 55)
theorem cz_52 {w : q_Mem} (hz : c_Z 52 w) : c_Z 55 (ci_52 w) := by
  unfold ci_52
  have z1 : c_Z 53 w := hz.le (by decide)
  have z2 : c_Z 53 (c_pt w 9 52 0 53) := z1.pt (by decide)
  have z3 : c_Z 54 (c_pt w 9 52 0 53) := z2.le (by decide)
  have z4 : c_Z 54 (c_pt (c_pt w 9 52 0 53) 9 52 1 54) := z3.pt (by decide)
  have z5 : c_Z 55 (c_pt (c_pt w 9 52 0 53) 9 52 1 54) := z4.le (by decide)
  have z6 : c_Z 55 (c_pt (c_pt (c_pt w 9 52 0 53) 9 52 1 54) 9 52 2 55) := z5.pt (by decide)
  exact z6
set_option maxHeartbeats 4000000 in
theorem cv_52 {w : q_Mem} (hz : c_Z 52 w) : q_Ev 1 3 450 mX9_init 52 true w [.ref 52] (fun r n' w' => r = none ∧ n' = 55 ∧ w' = ci_52 w) (fun _ _ _ => False) := by
  refine c_ev (by decide +kernel) rfl (Nat.le_of_ble_eq_true rfl) rfl ?_
  show p_Ex c_In 1 3 450 mX9_init 52 true (0, [some (.ref (52))], [], w) _ _
  refine pg_blk [(.aload_n 0, 1, 0, 0)] 1 [some (.ref (52))] [.ref (52)] w [] (by decide +kernel) (by refine gt_aload_n (r := 52) rfl ?_; exact gt_z rfl rfl rfl rfl rfl) trivial ?_
  refine p_Ex_obj (by decide) (by decide +kernel) (Nat.le_of_ble_eq_true rfl) (by decide) c_OW9 ?_
  refine pg_blk [(.aload_n 0, 1, 0, 0), (.sipush 150, 3, 0, 0)] 8 [some (.ref (52))] [.int (150), .ref (52)] w [] (by decide +kernel) (by refine gt_aload_n (r := 52) rfl ?_; refine gt_sipush (v := 150) (by decide +kernel) ?_; exact gt_z rfl rfl rfl rfl rfl) trivial ?_
  refine p_Ex_newarr (a := 2) (b := 300) (N := 150) (x := 14) (by decide) (by decide) (by decide) (by decide) (by decide) rfl ⟨(hz 53 (by decide)).1, (hz 53 (by decide)).2.1⟩ (by decide +kernel) c_AW14 ?_
  have z1 : c_Z 53 w := hz.le (by decide)
  refine p_Ex_putF (idx := 9) (x := 9) (k := 0) (fun _ _ _ _ _ h => h) (by decide) (by decide) (by decide +kernel) rfl rfl rfl (q_id_of rfl) (by decide +kernel) ?_
  show p_Ex c_In 1 2 300 mX9_init 53 true (13, [some (.ref (52))], [], (c_pt w 9 52 0 53)) _ _
  have z2 : c_Z 53 (c_pt w 9 52 0 53) := z1.pt (by decide)
  refine pg_blk [(.aload_n 0, 1, 0, 0), (.sipush 150, 3, 0, 0)] 17 [some (.ref (52))] [.int (150), .ref (52)] (c_pt w 9 52 0 53) [] (by decide +kernel) (by refine gt_aload_n (r := 52) rfl ?_; refine gt_sipush (v := 150) (by decide +kernel) ?_; exact gt_z rfl rfl rfl rfl rfl) trivial ?_
  refine p_Ex_newarr (a := 1) (b := 150) (N := 150) (x := 14) (by decide) (by decide) (by decide) (by decide) (by decide) rfl ⟨(z2 54 (by decide)).1, (z2 54 (by decide)).2.1⟩ (by decide +kernel) c_AW14 ?_
  have z3 : c_Z 54 (c_pt w 9 52 0 53) := z2.le (by decide)
  refine p_Ex_putF (idx := 15) (x := 9) (k := 1) (fun _ _ _ _ _ h => h) (by decide) (by decide) (by decide +kernel) rfl rfl rfl (q_id_of rfl) (by decide +kernel) ?_
  show p_Ex c_In 1 1 150 mX9_init 54 true (22, [some (.ref (52))], [], (c_pt (c_pt w 9 52 0 53) 9 52 1 54)) _ _
  have z4 : c_Z 54 (c_pt (c_pt w 9 52 0 53) 9 52 1 54) := z3.pt (by decide)
  refine pg_blk [(.aload_n 0, 1, 0, 0), (.sipush 150, 3, 0, 0)] 26 [some (.ref (52))] [.int (150), .ref (52)] (c_pt (c_pt w 9 52 0 53) 9 52 1 54) [] (by decide +kernel) (by refine gt_aload_n (r := 52) rfl ?_; refine gt_sipush (v := 150) (by decide +kernel) ?_; exact gt_z rfl rfl rfl rfl rfl) trivial ?_
  refine p_Ex_newarr (a := 0) (b := 0) (N := 150) (x := 14) (by decide) (by decide) (by decide) (by decide) (by decide) rfl ⟨(z4 55 (by decide)).1, (z4 55 (by decide)).2.1⟩ (by decide +kernel) c_AW14 ?_
  have z5 : c_Z 55 (c_pt (c_pt w 9 52 0 53) 9 52 1 54) := z4.le (by decide)
  refine p_Ex_putF (idx := 18) (x := 9) (k := 2) (fun _ _ _ _ _ h => h) (by decide) (by decide) (by decide +kernel) rfl rfl rfl (q_id_of rfl) (by decide +kernel) ?_
  show p_Ex c_In 1 0 0 mX9_init 55 true (31, [some (.ref (52))], [], (c_pt (c_pt (c_pt w 9 52 0 53) 9 52 1 54) 9 52 2 55)) _ _
  have z6 : c_Z 55 (c_pt (c_pt (c_pt w 9 52 0 53) 9 52 1 54) 9 52 2 55) := z5.pt (by decide)
  exact p_Ex_ret none (by decide +kernel) rfl ⟨rfl, rfl, rfl⟩
def ci_56 (w : q_Mem) : q_Mem := (c_pt w 6 56 0 57)
theorem cz_56 {w : q_Mem} (hz : c_Z 56 w) : c_Z 57 (ci_56 w) := by
  unfold ci_56
  have z1 : c_Z 57 w := hz.le (by decide)
  have z2 : c_Z 57 (c_pt w 6 56 0 57) := z1.pt (by decide)
  exact z2
set_option maxHeartbeats 4000000 in
theorem cv_56 {w : q_Mem} (hz : c_Z 56 w) : q_Ev 1 1 59 mX6_init 56 true w [.ref 56] (fun r n' w' => r = none ∧ n' = 57 ∧ w' = ci_56 w) (fun _ _ _ => False) := by
  refine c_ev (by decide +kernel) rfl (Nat.le_of_ble_eq_true rfl) rfl ?_
  show p_Ex c_In 1 1 59 mX6_init 56 true (0, [some (.ref (56))], [], w) _ _
  refine pg_blk [(.aload_n 0, 1, 0, 0)] 1 [some (.ref (56))] [.ref (56)] w [] (by decide +kernel) (by refine gt_aload_n (r := 56) rfl ?_; exact gt_z rfl rfl rfl rfl rfl) trivial ?_
  refine p_Ex_obj (by decide) (by decide +kernel) (Nat.le_of_ble_eq_true rfl) (by decide) c_OW6 ?_
  refine pg_blk [(.aload_n 0, 1, 0, 0), (.bipush 59, 2, 0, 0)] 7 [some (.ref (56))] [.int (59), .ref (56)] w [] (by decide +kernel) (by refine gt_aload_n (r := 56) rfl ?_; refine gt_bipush (v := 59) (by decide +kernel) ?_; exact gt_z rfl rfl rfl rfl rfl) trivial ?_
  refine p_Ex_newarr (a := 0) (b := 0) (N := 59) (x := 14) (by decide) (by decide) (by decide) (by decide) (by decide) rfl ⟨(hz 57 (by decide)).1, (hz 57 (by decide)).2.1⟩ (by decide +kernel) c_AW14 ?_
  have z1 : c_Z 57 w := hz.le (by decide)
  refine p_Ex_putF (idx := 11) (x := 6) (k := 0) (fun _ _ _ _ _ h => h) (by decide) (by decide) (by decide +kernel) rfl rfl rfl (q_id_of rfl) (by decide +kernel) ?_
  show p_Ex c_In 1 0 0 mX6_init 57 true (12, [some (.ref (56))], [], (c_pt w 6 56 0 57)) _ _
  have z2 : c_Z 57 (c_pt w 6 56 0 57) := z1.pt (by decide)
  exact p_Ex_ret none (by decide +kernel) rfl ⟨rfl, rfl, rfl⟩
def ci_58 (w : q_Mem) : q_Mem := (c_pt w 8 58 0 59)
theorem cz_58 {w : q_Mem} (hz : c_Z 58 w) : c_Z 59 (ci_58 w) := by
  unfold ci_58
  have z1 : c_Z 59 w := hz.le (by decide)
  have z2 : c_Z 59 (c_pt w 8 58 0 59) := z1.pt (by decide)
  exact z2
set_option maxHeartbeats 4000000 in
theorem cv_58 {w : q_Mem} (hz : c_Z 58 w) : q_Ev 1 1 1003 mX8_init 58 true w [.ref 58] (fun r n' w' => r = none ∧ n' = 59 ∧ w' = ci_58 w) (fun _ _ _ => False) := by
  refine c_ev (by decide +kernel) rfl (Nat.le_of_ble_eq_true rfl) rfl ?_
  show p_Ex c_In 1 1 1003 mX8_init 58 true (0, [some (.ref (58))], [], w) _ _
  refine pg_blk [(.aload_n 0, 1, 0, 0)] 1 [some (.ref (58))] [.ref (58)] w [] (by decide +kernel) (by refine gt_aload_n (r := 58) rfl ?_; exact gt_z rfl rfl rfl rfl rfl) trivial ?_
  refine p_Ex_obj (by decide) (by decide +kernel) (Nat.le_of_ble_eq_true rfl) (by decide) c_OW8 ?_
  refine pg_blk [(.aload_n 0, 1, 0, 0), (.sipush 1003, 3, 0, 0)] 8 [some (.ref (58))] [.int (1003), .ref (58)] w [] (by decide +kernel) (by refine gt_aload_n (r := 58) rfl ?_; refine gt_sipush (v := 1003) (by decide +kernel) ?_; exact gt_z rfl rfl rfl rfl rfl) trivial ?_
  refine p_Ex_newarr (a := 0) (b := 0) (N := 1003) (x := 14) (by decide) (by decide) (by decide) (by decide) (by decide) rfl ⟨(hz 59 (by decide)).1, (hz 59 (by decide)).2.1⟩ (by decide +kernel) c_AW14 ?_
  have z1 : c_Z 59 w := hz.le (by decide)
  refine p_Ex_putF (idx := 11) (x := 8) (k := 0) (fun _ _ _ _ _ h => h) (by decide) (by decide) (by decide +kernel) rfl rfl rfl (q_id_of rfl) (by decide +kernel) ?_
  show p_Ex c_In 1 0 0 mX8_init 59 true (13, [some (.ref (58))], [], (c_pt w 8 58 0 59)) _ _
  have z2 : c_Z 59 (c_pt w 8 58 0 59) := z1.pt (by decide)
  exact p_Ex_ret none (by decide +kernel) rfl ⟨rfl, rfl, rfl⟩
def ci_61 (w : q_Mem) : q_Mem := (c_pt w 8 61 0 62)
theorem cz_61 {w : q_Mem} (hz : c_Z 61 w) : c_Z 62 (ci_61 w) := by
  unfold ci_61
  have z1 : c_Z 62 w := hz.le (by decide)
  have z2 : c_Z 62 (c_pt w 8 61 0 62) := z1.pt (by decide)
  exact z2
set_option maxHeartbeats 4000000 in
theorem cv_61 {w : q_Mem} (hz : c_Z 61 w) : q_Ev 1 1 1003 mX8_init 61 true w [.ref 61] (fun r n' w' => r = none ∧ n' = 62 ∧ w' = ci_61 w) (fun _ _ _ => False) := by
  refine c_ev (by decide +kernel) rfl (Nat.le_of_ble_eq_true rfl) rfl ?_
  show p_Ex c_In 1 1 1003 mX8_init 61 true (0, [some (.ref (61))], [], w) _ _
  refine pg_blk [(.aload_n 0, 1, 0, 0)] 1 [some (.ref (61))] [.ref (61)] w [] (by decide +kernel) (by refine gt_aload_n (r := 61) rfl ?_; exact gt_z rfl rfl rfl rfl rfl) trivial ?_
  refine p_Ex_obj (by decide) (by decide +kernel) (Nat.le_of_ble_eq_true rfl) (by decide) c_OW8 ?_
  refine pg_blk [(.aload_n 0, 1, 0, 0), (.sipush 1003, 3, 0, 0)] 8 [some (.ref (61))] [.int (1003), .ref (61)] w [] (by decide +kernel) (by refine gt_aload_n (r := 61) rfl ?_; refine gt_sipush (v := 1003) (by decide +kernel) ?_; exact gt_z rfl rfl rfl rfl rfl) trivial ?_
  refine p_Ex_newarr (a := 0) (b := 0) (N := 1003) (x := 14) (by decide) (by decide) (by decide) (by decide) (by decide) rfl ⟨(hz 62 (by decide)).1, (hz 62 (by decide)).2.1⟩ (by decide +kernel) c_AW14 ?_
  have z1 : c_Z 62 w := hz.le (by decide)
  refine p_Ex_putF (idx := 11) (x := 8) (k := 0) (fun _ _ _ _ _ h => h) (by decide) (by decide) (by decide +kernel) rfl rfl rfl (q_id_of rfl) (by decide +kernel) ?_
  show p_Ex c_In 1 0 0 mX8_init 62 true (13, [some (.ref (61))], [], (c_pt w 8 61 0 62)) _ _
  have z2 : c_Z 62 (c_pt w 8 61 0 62) := z1.pt (by decide)
  exact p_Ex_ret none (by decide +kernel) rfl ⟨rfl, rfl, rfl⟩
def ci_63 (w : q_Mem) : q_Mem := (c_pt w 8 63 0 64)
theorem cz_63 {w : q_Mem} (hz : c_Z 63 w) : c_Z 64 (ci_63 w) := by
  unfold ci_63
  have z1 : c_Z 64 w := hz.le (by decide)
  have z2 : c_Z 64 (c_pt w 8 63 0 64) := z1.pt (by decide)
  exact z2
set_option maxHeartbeats 4000000 in
theorem cv_63 {w : q_Mem} (hz : c_Z 63 w) : q_Ev 1 1 1003 mX8_init 63 true w [.ref 63] (fun r n' w' => r = none ∧ n' = 64 ∧ w' = ci_63 w) (fun _ _ _ => False) := by
  refine c_ev (by decide +kernel) rfl (Nat.le_of_ble_eq_true rfl) rfl ?_
  show p_Ex c_In 1 1 1003 mX8_init 63 true (0, [some (.ref (63))], [], w) _ _
  refine pg_blk [(.aload_n 0, 1, 0, 0)] 1 [some (.ref (63))] [.ref (63)] w [] (by decide +kernel) (by refine gt_aload_n (r := 63) rfl ?_; exact gt_z rfl rfl rfl rfl rfl) trivial ?_
  refine p_Ex_obj (by decide) (by decide +kernel) (Nat.le_of_ble_eq_true rfl) (by decide) c_OW8 ?_
  refine pg_blk [(.aload_n 0, 1, 0, 0), (.sipush 1003, 3, 0, 0)] 8 [some (.ref (63))] [.int (1003), .ref (63)] w [] (by decide +kernel) (by refine gt_aload_n (r := 63) rfl ?_; refine gt_sipush (v := 1003) (by decide +kernel) ?_; exact gt_z rfl rfl rfl rfl rfl) trivial ?_
  refine p_Ex_newarr (a := 0) (b := 0) (N := 1003) (x := 14) (by decide) (by decide) (by decide) (by decide) (by decide) rfl ⟨(hz 64 (by decide)).1, (hz 64 (by decide)).2.1⟩ (by decide +kernel) c_AW14 ?_
  have z1 : c_Z 64 w := hz.le (by decide)
  refine p_Ex_putF (idx := 11) (x := 8) (k := 0) (fun _ _ _ _ _ h => h) (by decide) (by decide) (by decide +kernel) rfl rfl rfl (q_id_of rfl) (by decide +kernel) ?_
  show p_Ex c_In 1 0 0 mX8_init 64 true (13, [some (.ref (63))], [], (c_pt w 8 63 0 64)) _ _
  have z2 : c_Z 64 (c_pt w 8 63 0 64) := z1.pt (by decide)
  exact p_Ex_ret none (by decide +kernel) rfl ⟨rfl, rfl, rfl⟩
def ci_65 (w : q_Mem) : q_Mem := (c_pt w 8 65 0 66)
theorem cz_65 {w : q_Mem} (hz : c_Z 65 w) : c_Z 66 (ci_65 w) := by
  unfold ci_65
  have z1 : c_Z 66 w := hz.le (by decide)
  have z2 : c_Z 66 (c_pt w 8 65 0 66) := z1.pt (by decide)
  exact z2
set_option maxHeartbeats 4000000 in
theorem cv_65 {w : q_Mem} (hz : c_Z 65 w) : q_Ev 1 1 1003 mX8_init 65 true w [.ref 65] (fun r n' w' => r = none ∧ n' = 66 ∧ w' = ci_65 w) (fun _ _ _ => False) := by
  refine c_ev (by decide +kernel) rfl (Nat.le_of_ble_eq_true rfl) rfl ?_
  show p_Ex c_In 1 1 1003 mX8_init 65 true (0, [some (.ref (65))], [], w) _ _
  refine pg_blk [(.aload_n 0, 1, 0, 0)] 1 [some (.ref (65))] [.ref (65)] w [] (by decide +kernel) (by refine gt_aload_n (r := 65) rfl ?_; exact gt_z rfl rfl rfl rfl rfl) trivial ?_
  refine p_Ex_obj (by decide) (by decide +kernel) (Nat.le_of_ble_eq_true rfl) (by decide) c_OW8 ?_
  refine pg_blk [(.aload_n 0, 1, 0, 0), (.sipush 1003, 3, 0, 0)] 8 [some (.ref (65))] [.int (1003), .ref (65)] w [] (by decide +kernel) (by refine gt_aload_n (r := 65) rfl ?_; refine gt_sipush (v := 1003) (by decide +kernel) ?_; exact gt_z rfl rfl rfl rfl rfl) trivial ?_
  refine p_Ex_newarr (a := 0) (b := 0) (N := 1003) (x := 14) (by decide) (by decide) (by decide) (by decide) (by decide) rfl ⟨(hz 66 (by decide)).1, (hz 66 (by decide)).2.1⟩ (by decide +kernel) c_AW14 ?_
  have z1 : c_Z 66 w := hz.le (by decide)
  refine p_Ex_putF (idx := 11) (x := 8) (k := 0) (fun _ _ _ _ _ h => h) (by decide) (by decide) (by decide +kernel) rfl rfl rfl (q_id_of rfl) (by decide +kernel) ?_
  show p_Ex c_In 1 0 0 mX8_init 66 true (13, [some (.ref (65))], [], (c_pt w 8 65 0 66)) _ _
  have z2 : c_Z 66 (c_pt w 8 65 0 66) := z1.pt (by decide)
  exact p_Ex_ret none (by decide +kernel) rfl ⟨rfl, rfl, rfl⟩
def ci_68 (w : q_Mem) : q_Mem := (c_pt w 6 68 0 69)
theorem cz_68 {w : q_Mem} (hz : c_Z 68 w) : c_Z 69 (ci_68 w) := by
  unfold ci_68
  have z1 : c_Z 69 w := hz.le (by decide)
  have z2 : c_Z 69 (c_pt w 6 68 0 69) := z1.pt (by decide)
  exact z2
set_option maxHeartbeats 4000000 in
theorem cv_68 {w : q_Mem} (hz : c_Z 68 w) : q_Ev 1 1 59 mX6_init 68 true w [.ref 68] (fun r n' w' => r = none ∧ n' = 69 ∧ w' = ci_68 w) (fun _ _ _ => False) := by
  refine c_ev (by decide +kernel) rfl (Nat.le_of_ble_eq_true rfl) rfl ?_
  show p_Ex c_In 1 1 59 mX6_init 68 true (0, [some (.ref (68))], [], w) _ _
  refine pg_blk [(.aload_n 0, 1, 0, 0)] 1 [some (.ref (68))] [.ref (68)] w [] (by decide +kernel) (by refine gt_aload_n (r := 68) rfl ?_; exact gt_z rfl rfl rfl rfl rfl) trivial ?_
  refine p_Ex_obj (by decide) (by decide +kernel) (Nat.le_of_ble_eq_true rfl) (by decide) c_OW6 ?_
  refine pg_blk [(.aload_n 0, 1, 0, 0), (.bipush 59, 2, 0, 0)] 7 [some (.ref (68))] [.int (59), .ref (68)] w [] (by decide +kernel) (by refine gt_aload_n (r := 68) rfl ?_; refine gt_bipush (v := 59) (by decide +kernel) ?_; exact gt_z rfl rfl rfl rfl rfl) trivial ?_
  refine p_Ex_newarr (a := 0) (b := 0) (N := 59) (x := 14) (by decide) (by decide) (by decide) (by decide) (by decide) rfl ⟨(hz 69 (by decide)).1, (hz 69 (by decide)).2.1⟩ (by decide +kernel) c_AW14 ?_
  have z1 : c_Z 69 w := hz.le (by decide)
  refine p_Ex_putF (idx := 11) (x := 6) (k := 0) (fun _ _ _ _ _ h => h) (by decide) (by decide) (by decide +kernel) rfl rfl rfl (q_id_of rfl) (by decide +kernel) ?_
  show p_Ex c_In 1 0 0 mX6_init 69 true (12, [some (.ref (68))], [], (c_pt w 6 68 0 69)) _ _
  have z2 : c_Z 69 (c_pt w 6 68 0 69) := z1.pt (by decide)
  exact p_Ex_ret none (by decide +kernel) rfl ⟨rfl, rfl, rfl⟩
def ci_67 (w : q_Mem) : q_Mem := (c_pt (ci_68 w) 4 67 0 68)
theorem cz_67 {w : q_Mem} (hz : c_Z 67 w) : c_Z 69 (ci_67 w) := by
  unfold ci_67
  have z1 : c_Z 68 w := hz.le (by decide)
  have z2 : c_Z 69 (ci_68 w) := cz_68 z1
  have z3 : c_Z 69 (c_pt (ci_68 w) 4 67 0 68) := z2.pt (by decide)
  exact z3
set_option maxHeartbeats 4000000 in
theorem cv_67 {w : q_Mem} (hz : c_Z 67 w) : q_Ev 2 2 60 mX4_init 67 true w [.ref 67] (fun r n' w' => r = none ∧ n' = 69 ∧ w' = ci_67 w) (fun _ _ _ => False) := by
  refine c_ev (by decide +kernel) rfl (Nat.le_of_ble_eq_true rfl) rfl ?_
  show p_Ex c_In 2 2 60 mX4_init 67 true (0, [some (.ref (67))], [], w) _ _
  refine pg_blk [(.aload_n 0, 1, 0, 0)] 1 [some (.ref (67))] [.ref (67)] w [] (by decide +kernel) (by refine gt_aload_n (r := 67) rfl ?_; exact gt_z rfl rfl rfl rfl rfl) trivial ?_
  refine p_Ex_obj (by decide) (by decide +kernel) (Nat.le_of_ble_eq_true rfl) (by decide) c_OW4 ?_
  refine pg_blk [(.aload_n 0, 1, 0, 0)] 5 [some (.ref (67))] [.ref (67)] w [] (by decide +kernel) (by refine gt_aload_n (r := 67) rfl ?_; exact gt_z rfl rfl rfl rfl rfl) trivial ?_
  refine p_Ex_new (idx := 9) (a := 1) (b := 59) (x := 6) (by decide) (by decide) rfl ⟨(hz 68 (by decide)).1, (hz 68 (by decide)).2.2⟩ (by decide +kernel) c_NW4_9 ?_
  have z1 : c_Z 68 w := hz.le (by decide)
  refine pg_blk [(.dup, 1, 0, 0)] 9 [some (.ref (67))] [.ref (68), .ref (68), .ref (67)] w [] (by decide +kernel) (by refine gt_dupR ?_; exact gt_z rfl rfl rfl rfl rfl) trivial ?_
  refine p_Ex_callI (idx := 11) (d' := 1) (a' := 1) (b' := 59) (M' := mX6_init) c_IW6 (by decide) (Or.inr (by decide +kernel)) (by decide +kernel) (cv_68 z1) (by decide) (Nat.le_of_ble_eq_true rfl) (by decide) (by decide) (by decide) (fun _ r n' w' h => h.2.1) ?_
  rintro r n' w' ⟨rfl, rfl, rfl⟩
  show p_Ex c_In 2 0 0 mX4_init 69 true (12, [some (.ref (67))], [.ref (68), .ref (67)], (ci_68 w)) _ _
  have z2 : c_Z 69 (ci_68 w) := cz_68 z1
  refine p_Ex_putF (idx := 12) (x := 4) (k := 0) (fun _ _ _ _ _ h => h) (by decide) (by decide) (by decide +kernel) rfl rfl rfl (q_id_of rfl) (by decide +kernel) ?_
  show p_Ex c_In 2 0 0 mX4_init 69 true (15, [some (.ref (67))], [], (c_pt (ci_68 w) 4 67 0 68)) _ _
  have z3 : c_Z 69 (c_pt (ci_68 w) 4 67 0 68) := z2.pt (by decide)
  exact p_Ex_ret none (by decide +kernel) rfl ⟨rfl, rfl, rfl⟩
def ci_70 (w : q_Mem) : q_Mem := (c_pt (c_pt w 3 70 0 71) 3 70 1 72)
theorem cz_70 {w : q_Mem} (hz : c_Z 70 w) : c_Z 72 (ci_70 w) := by
  unfold ci_70
  have z1 : c_Z 71 w := hz.le (by decide)
  have z2 : c_Z 71 (c_pt w 3 70 0 71) := z1.pt (by decide)
  have z3 : c_Z 72 (c_pt w 3 70 0 71) := z2.le (by decide)
  have z4 : c_Z 72 (c_pt (c_pt w 3 70 0 71) 3 70 1 72) := z3.pt (by decide)
  exact z4
set_option maxHeartbeats 4000000 in
theorem cv_70 {w : q_Mem} (hz : c_Z 70 w) : q_Ev 1 2 14 mX3_init 70 true w [.ref 70] (fun r n' w' => r = none ∧ n' = 72 ∧ w' = ci_70 w) (fun _ _ _ => False) := by
  refine c_ev (by decide +kernel) rfl (Nat.le_of_ble_eq_true rfl) rfl ?_
  show p_Ex c_In 1 2 14 mX3_init 70 true (0, [some (.ref (70))], [], w) _ _
  refine pg_blk [(.aload_n 0, 1, 0, 0)] 1 [some (.ref (70))] [.ref (70)] w [] (by decide +kernel) (by refine gt_aload_n (r := 70) rfl ?_; exact gt_z rfl rfl rfl rfl rfl) trivial ?_
  refine p_Ex_obj (by decide) (by decide +kernel) (Nat.le_of_ble_eq_true rfl) (by decide) c_OW3 ?_
  refine pg_blk [(.aload_n 0, 1, 0, 0), (.bipush 10, 2, 0, 0)] 7 [some (.ref (70))] [.int (10), .ref (70)] w [] (by decide +kernel) (by refine gt_aload_n (r := 70) rfl ?_; refine gt_bipush (v := 10) (by decide +kernel) ?_; exact gt_z rfl rfl rfl rfl rfl) trivial ?_
  refine p_Ex_newarr (a := 1) (b := 4) (N := 10) (x := 14) (by decide) (by decide) (by decide) (by decide) (by decide) rfl ⟨(hz 71 (by decide)).1, (hz 71 (by decide)).2.1⟩ (by decide +kernel) c_AW14 ?_
  have z1 : c_Z 71 w := hz.le (by decide)
  refine p_Ex_putF (idx := 9) (x := 3) (k := 0) (fun _ _ _ _ _ h => h) (by decide) (by decide) (by decide +kernel) rfl rfl rfl (q_id_of rfl) (by decide +kernel) ?_
  show p_Ex c_In 1 1 4 mX3_init 71 true (12, [some (.ref (70))], [], (c_pt w 3 70 0 71)) _ _
  have z2 : c_Z 71 (c_pt w 3 70 0 71) := z1.pt (by decide)
  refine pg_blk [(.aload_n 0, 1, 0, 0), (.iconst 4, 1, 0, 0)] 14 [some (.ref (70))] [.int (4), .ref (70)] (c_pt w 3 70 0 71) [] (by decide +kernel) (by refine gt_aload_n (r := 70) rfl ?_; refine gt_iconst (v := 4) (by decide) ?_; exact gt_z rfl rfl rfl rfl rfl) trivial ?_
  refine p_Ex_newarr (a := 0) (b := 0) (N := 4) (x := 14) (by decide) (by decide) (by decide) (by decide) (by decide) rfl ⟨(z2 72 (by decide)).1, (z2 72 (by decide)).2.1⟩ (by decide +kernel) c_AW14 ?_
  have z3 : c_Z 72 (c_pt w 3 70 0 71) := z2.le (by decide)
  refine p_Ex_putF (idx := 15) (x := 3) (k := 1) (fun _ _ _ _ _ h => h) (by decide) (by decide) (by decide +kernel) rfl rfl rfl (q_id_of rfl) (by decide +kernel) ?_
  show p_Ex c_In 1 0 0 mX3_init 72 true (19, [some (.ref (70))], [], (c_pt (c_pt w 3 70 0 71) 3 70 1 72)) _ _
  have z4 : c_Z 72 (c_pt (c_pt w 3 70 0 71) 3 70 1 72) := z3.pt (by decide)
  exact p_Ex_ret none (by decide +kernel) rfl ⟨rfl, rfl, rfl⟩
def ci_73 (w : q_Mem) : q_Mem := (c_pt (c_pt (c_pt w 7 73 0 74) 7 73 1 75) 7 73 2 76)
theorem cz_73 {w : q_Mem} (hz : c_Z 73 w) : c_Z 76 (ci_73 w) := by
  unfold ci_73
  have z1 : c_Z 74 w := hz.le (by decide)
  have z2 : c_Z 74 (c_pt w 7 73 0 74) := z1.pt (by decide)
  have z3 : c_Z 75 (c_pt w 7 73 0 74) := z2.le (by decide)
  have z4 : c_Z 75 (c_pt (c_pt w 7 73 0 74) 7 73 1 75) := z3.pt (by decide)
  have z5 : c_Z 76 (c_pt (c_pt w 7 73 0 74) 7 73 1 75) := z4.le (by decide)
  have z6 : c_Z 76 (c_pt (c_pt (c_pt w 7 73 0 74) 7 73 1 75) 7 73 2 76) := z5.pt (by decide)
  exact z6
set_option maxHeartbeats 4000000 in
theorem cv_73 {w : q_Mem} (hz : c_Z 73 w) : q_Ev 1 3 76 mX7_init 73 true w [.ref 73] (fun r n' w' => r = none ∧ n' = 76 ∧ w' = ci_73 w) (fun _ _ _ => False) := by
  refine c_ev (by decide +kernel) rfl (Nat.le_of_ble_eq_true rfl) rfl ?_
  show p_Ex c_In 1 3 76 mX7_init 73 true (0, [some (.ref (73))], [], w) _ _
  refine pg_blk [(.aload_n 0, 1, 0, 0)] 1 [some (.ref (73))] [.ref (73)] w [] (by decide +kernel) (by refine gt_aload_n (r := 73) rfl ?_; exact gt_z rfl rfl rfl rfl rfl) trivial ?_
  refine p_Ex_obj (by decide) (by decide +kernel) (Nat.le_of_ble_eq_true rfl) (by decide) c_OW7 ?_
  refine pg_blk [(.aload_n 0, 1, 0, 0), (.bipush 6, 2, 0, 0)] 7 [some (.ref (73))] [.int (6), .ref (73)] w [] (by decide +kernel) (by refine gt_aload_n (r := 73) rfl ?_; refine gt_bipush (v := 6) (by decide +kernel) ?_; exact gt_z rfl rfl rfl rfl rfl) trivial ?_
  refine p_Ex_newarr (a := 2) (b := 70) (N := 6) (x := 15) (by decide) (by decide) (by decide) (by decide) (by decide) rfl ⟨(hz 74 (by decide)).1, (hz 74 (by decide)).2.1⟩ (by decide +kernel) c_AW15 ?_
  have z1 : c_Z 74 w := hz.le (by decide)
  refine p_Ex_putF (idx := 9) (x := 7) (k := 0) (fun _ _ _ _ _ h => h) (by decide) (by decide) (by decide +kernel) rfl rfl rfl (q_id_of rfl) (by decide +kernel) ?_
  show p_Ex c_In 1 2 70 mX7_init 74 true (12, [some (.ref (73))], [], (c_pt w 7 73 0 74)) _ _
  have z2 : c_Z 74 (c_pt w 7 73 0 74) := z1.pt (by decide)
  refine pg_blk [(.aload_n 0, 1, 0, 0), (.bipush 64, 2, 0, 0)] 15 [some (.ref (73))] [.int (64), .ref (73)] (c_pt w 7 73 0 74) [] (by decide +kernel) (by refine gt_aload_n (r := 73) rfl ?_; refine gt_bipush (v := 64) (by decide +kernel) ?_; exact gt_z rfl rfl rfl rfl rfl) trivial ?_
  refine p_Ex_newarr (a := 1) (b := 6) (N := 64) (x := 15) (by decide) (by decide) (by decide) (by decide) (by decide) rfl ⟨(z2 75 (by decide)).1, (z2 75 (by decide)).2.1⟩ (by decide +kernel) c_AW15 ?_
  have z3 : c_Z 75 (c_pt w 7 73 0 74) := z2.le (by decide)
  refine p_Ex_putF (idx := 15) (x := 7) (k := 1) (fun _ _ _ _ _ h => h) (by decide) (by decide) (by decide +kernel) rfl rfl rfl (q_id_of rfl) (by decide +kernel) ?_
  show p_Ex c_In 1 1 6 mX7_init 75 true (20, [some (.ref (73))], [], (c_pt (c_pt w 7 73 0 74) 7 73 1 75)) _ _
  have z4 : c_Z 75 (c_pt (c_pt w 7 73 0 74) 7 73 1 75) := z3.pt (by decide)
  refine pg_blk [(.aload_n 0, 1, 0, 0), (.bipush 6, 2, 0, 0)] 23 [some (.ref (73))] [.int (6), .ref (73)] (c_pt (c_pt w 7 73 0 74) 7 73 1 75) [] (by decide +kernel) (by refine gt_aload_n (r := 73) rfl ?_; refine gt_bipush (v := 6) (by decide +kernel) ?_; exact gt_z rfl rfl rfl rfl rfl) trivial ?_
  refine p_Ex_newarr (a := 0) (b := 0) (N := 6) (x := 14) (by decide) (by decide) (by decide) (by decide) (by decide) rfl ⟨(z4 76 (by decide)).1, (z4 76 (by decide)).2.1⟩ (by decide +kernel) c_AW14 ?_
  have z5 : c_Z 76 (c_pt (c_pt w 7 73 0 74) 7 73 1 75) := z4.le (by decide)
  refine p_Ex_putF (idx := 18) (x := 7) (k := 2) (fun _ _ _ _ _ h => h) (by decide) (by decide) (by decide +kernel) rfl rfl rfl (q_id_of rfl) (by decide +kernel) ?_
  show p_Ex c_In 1 0 0 mX7_init 76 true (28, [some (.ref (73))], [], (c_pt (c_pt (c_pt w 7 73 0 74) 7 73 1 75) 7 73 2 76)) _ _
  have z6 : c_Z 76 (c_pt (c_pt (c_pt w 7 73 0 74) 7 73 1 75) 7 73 2 76) := z5.pt (by decide)
  exact p_Ex_ret none (by decide +kernel) rfl ⟨rfl, rfl, rfl⟩
def ci_77 (w : q_Mem) : q_Mem := (c_pt w 0 77 0 78)
theorem cz_77 {w : q_Mem} (hz : c_Z 77 w) : c_Z 78 (ci_77 w) := by
  unfold ci_77
  have z1 : c_Z 78 w := hz.le (by decide)
  have z2 : c_Z 78 (c_pt w 0 77 0 78) := z1.pt (by decide)
  exact z2
set_option maxHeartbeats 4000000 in
theorem cv_77 {w : q_Mem} (hz : c_Z 77 w) : q_Ev 1 1 21 mX0_init 77 true w [.ref 77] (fun r n' w' => r = none ∧ n' = 78 ∧ w' = ci_77 w) (fun _ _ _ => False) := by
  refine c_ev (by decide +kernel) rfl (Nat.le_of_ble_eq_true rfl) rfl ?_
  show p_Ex c_In 1 1 21 mX0_init 77 true (0, [some (.ref (77))], [], w) _ _
  refine pg_blk [(.aload_n 0, 1, 0, 0)] 1 [some (.ref (77))] [.ref (77)] w [] (by decide +kernel) (by refine gt_aload_n (r := 77) rfl ?_; exact gt_z rfl rfl rfl rfl rfl) trivial ?_
  refine p_Ex_obj (by decide) (by decide +kernel) (Nat.le_of_ble_eq_true rfl) (by decide) c_OW0 ?_
  refine pg_blk [(.aload_n 0, 1, 0, 0), (.bipush 21, 2, 0, 0)] 7 [some (.ref (77))] [.int (21), .ref (77)] w [] (by decide +kernel) (by refine gt_aload_n (r := 77) rfl ?_; refine gt_bipush (v := 21) (by decide +kernel) ?_; exact gt_z rfl rfl rfl rfl rfl) trivial ?_
  refine p_Ex_newarr (a := 0) (b := 0) (N := 21) (x := 14) (by decide) (by decide) (by decide) (by decide) (by decide) rfl ⟨(hz 78 (by decide)).1, (hz 78 (by decide)).2.1⟩ (by decide +kernel) c_AW14 ?_
  have z1 : c_Z 78 w := hz.le (by decide)
  refine p_Ex_putF (idx := 9) (x := 0) (k := 0) (fun _ _ _ _ _ h => h) (by decide) (by decide) (by decide +kernel) rfl rfl rfl (q_id_of rfl) (by decide +kernel) ?_
  show p_Ex c_In 1 0 0 mX0_init 78 true (12, [some (.ref (77))], [], (c_pt w 0 77 0 78)) _ _
  have z2 : c_Z 78 (c_pt w 0 77 0 78) := z1.pt (by decide)
  exact p_Ex_ret none (by decide +kernel) rfl ⟨rfl, rfl, rfl⟩
def ci_1 (w : q_Mem) : q_Mem := (c_pt (ci_77 (c_pt (ci_73 (c_pt (ci_70 (c_pt (ci_67 (c_pt (ci_65 (c_pt (ci_63 (c_pt (ci_61 (c_pt (c_pt (ci_58 (c_pt (ci_56 (c_pt (ci_52 (c_pt (ci_48 (c_pt (ci_44 (c_pt (ci_40 (c_pt (ci_36 (c_pt (ci_20 (c_pt (ci_4 (c_pt (ci_2 w) 11 1 0 2)) 11 1 1 4)) 11 1 2 20)) 11 1 3 36)) 11 1 4 40)) 11 1 5 44)) 11 1 6 48)) 11 1 7 52)) 11 1 8 56)) 11 1 9 58) 11 1 10 60)) 17 60 0 61)) 17 60 1 63)) 17 60 2 65)) 11 1 15 67)) 11 1 16 70)) 11 1 17 73)) 11 1 18 77)
theorem cz_1 {w : q_Mem} (hz : c_Z 1 w) : c_Z 78 (ci_1 w) := by
  unfold ci_1
  have z1 : c_Z 2 w := hz.le (by decide)
  have z2 : c_Z 3 (ci_2 w) := cz_2 z1
  have z3 : c_Z 3 (c_pt (ci_2 w) 11 1 0 2) := z2.pt (by decide)
  have z4 : c_Z 4 (c_pt (ci_2 w) 11 1 0 2) := z3.le (by decide)
  have z5 : c_Z 19 (ci_4 (c_pt (ci_2 w) 11 1 0 2)) := cz_4 z4
  have z6 : c_Z 19 (c_pt (ci_4 (c_pt (ci_2 w) 11 1 0 2)) 11 1 1 4) := z5.pt (by decide)
  have z7 : c_Z 20 (c_pt (ci_4 (c_pt (ci_2 w) 11 1 0 2)) 11 1 1 4) := z6.le (by decide)
  have z8 : c_Z 35 (ci_20 (c_pt (ci_4 (c_pt (ci_2 w) 11 1 0 2)) 11 1 1 4)) := cz_20 z7
  have z9 : c_Z 35 (c_pt (ci_20 (c_pt (ci_4 (c_pt (ci_2 w) 11 1 0 2)) 11 1 1 4)) 11 1 2 20) := z8.pt (by decide)
  have z10 : c_Z 36 (c_pt (ci_20 (c_pt (ci_4 (c_pt (ci_2 w) 11 1 0 2)) 11 1 1 4)) 11 1 2 20) := z9.le (by decide)
  have z11 : c_Z 39 (ci_36 (c_pt (ci_20 (c_pt (ci_4 (c_pt (ci_2 w) 11 1 0 2)) 11 1 1 4)) 11 1 2 20)) := cz_36 z10
  have z12 : c_Z 39 (c_pt (ci_36 (c_pt (ci_20 (c_pt (ci_4 (c_pt (ci_2 w) 11 1 0 2)) 11 1 1 4)) 11 1 2 20)) 11 1 3 36) := z11.pt (by decide)
  have z13 : c_Z 40 (c_pt (ci_36 (c_pt (ci_20 (c_pt (ci_4 (c_pt (ci_2 w) 11 1 0 2)) 11 1 1 4)) 11 1 2 20)) 11 1 3 36) := z12.le (by decide)
  have z14 : c_Z 43 (ci_40 (c_pt (ci_36 (c_pt (ci_20 (c_pt (ci_4 (c_pt (ci_2 w) 11 1 0 2)) 11 1 1 4)) 11 1 2 20)) 11 1 3 36)) := cz_40 z13
  have z15 : c_Z 43 (c_pt (ci_40 (c_pt (ci_36 (c_pt (ci_20 (c_pt (ci_4 (c_pt (ci_2 w) 11 1 0 2)) 11 1 1 4)) 11 1 2 20)) 11 1 3 36)) 11 1 4 40) := z14.pt (by decide)
  have z16 : c_Z 44 (c_pt (ci_40 (c_pt (ci_36 (c_pt (ci_20 (c_pt (ci_4 (c_pt (ci_2 w) 11 1 0 2)) 11 1 1 4)) 11 1 2 20)) 11 1 3 36)) 11 1 4 40) := z15.le (by decide)
  have z17 : c_Z 47 (ci_44 (c_pt (ci_40 (c_pt (ci_36 (c_pt (ci_20 (c_pt (ci_4 (c_pt (ci_2 w) 11 1 0 2)) 11 1 1 4)) 11 1 2 20)) 11 1 3 36)) 11 1 4 40)) := cz_44 z16
  have z18 : c_Z 47 (c_pt (ci_44 (c_pt (ci_40 (c_pt (ci_36 (c_pt (ci_20 (c_pt (ci_4 (c_pt (ci_2 w) 11 1 0 2)) 11 1 1 4)) 11 1 2 20)) 11 1 3 36)) 11 1 4 40)) 11 1 5 44) := z17.pt (by decide)
  have z19 : c_Z 48 (c_pt (ci_44 (c_pt (ci_40 (c_pt (ci_36 (c_pt (ci_20 (c_pt (ci_4 (c_pt (ci_2 w) 11 1 0 2)) 11 1 1 4)) 11 1 2 20)) 11 1 3 36)) 11 1 4 40)) 11 1 5 44) := z18.le (by decide)
  have z20 : c_Z 51 (ci_48 (c_pt (ci_44 (c_pt (ci_40 (c_pt (ci_36 (c_pt (ci_20 (c_pt (ci_4 (c_pt (ci_2 w) 11 1 0 2)) 11 1 1 4)) 11 1 2 20)) 11 1 3 36)) 11 1 4 40)) 11 1 5 44)) := cz_48 z19
  have z21 : c_Z 51 (c_pt (ci_48 (c_pt (ci_44 (c_pt (ci_40 (c_pt (ci_36 (c_pt (ci_20 (c_pt (ci_4 (c_pt (ci_2 w) 11 1 0 2)) 11 1 1 4)) 11 1 2 20)) 11 1 3 36)) 11 1 4 40)) 11 1 5 44)) 11 1 6 48) := z20.pt (by decide)
  have z22 : c_Z 52 (c_pt (ci_48 (c_pt (ci_44 (c_pt (ci_40 (c_pt (ci_36 (c_pt (ci_20 (c_pt (ci_4 (c_pt (ci_2 w) 11 1 0 2)) 11 1 1 4)) 11 1 2 20)) 11 1 3 36)) 11 1 4 40)) 11 1 5 44)) 11 1 6 48) := z21.le (by decide)
  have z23 : c_Z 55 (ci_52 (c_pt (ci_48 (c_pt (ci_44 (c_pt (ci_40 (c_pt (ci_36 (c_pt (ci_20 (c_pt (ci_4 (c_pt (ci_2 w) 11 1 0 2)) 11 1 1 4)) 11 1 2 20)) 11 1 3 36)) 11 1 4 40)) 11 1 5 44)) 11 1 6 48)) := cz_52 z22
  have z24 : c_Z 55 (c_pt (ci_52 (c_pt (ci_48 (c_pt (ci_44 (c_pt (ci_40 (c_pt (ci_36 (c_pt (ci_20 (c_pt (ci_4 (c_pt (ci_2 w) 11 1 0 2)) 11 1 1 4)) 11 1 2 20)) 11 1 3 36)) 11 1 4 40)) 11 1 5 44)) 11 1 6 48)) 11 1 7 52) := z23.pt (by decide)
  have z25 : c_Z 56 (c_pt (ci_52 (c_pt (ci_48 (c_pt (ci_44 (c_pt (ci_40 (c_pt (ci_36 (c_pt (ci_20 (c_pt (ci_4 (c_pt (ci_2 w) 11 1 0 2)) 11 1 1 4)) 11 1 2 20)) 11 1 3 36)) 11 1 4 40)) 11 1 5 44)) 11 1 6 48)) 11 1 7 52) := z24.le (by decide)
  have z26 : c_Z 57 (ci_56 (c_pt (ci_52 (c_pt (ci_48 (c_pt (ci_44 (c_pt (ci_40 (c_pt (ci_36 (c_pt (ci_20 (c_pt (ci_4 (c_pt (ci_2 w) 11 1 0 2)) 11 1 1 4)) 11 1 2 20)) 11 1 3 36)) 11 1 4 40)) 11 1 5 44)) 11 1 6 48)) 11 1 7 52)) := cz_56 z25
  have z27 : c_Z 57 (c_pt (ci_56 (c_pt (ci_52 (c_pt (ci_48 (c_pt (ci_44 (c_pt (ci_40 (c_pt (ci_36 (c_pt (ci_20 (c_pt (ci_4 (c_pt (ci_2 w) 11 1 0 2)) 11 1 1 4)) 11 1 2 20)) 11 1 3 36)) 11 1 4 40)) 11 1 5 44)) 11 1 6 48)) 11 1 7 52)) 11 1 8 56) := z26.pt (by decide)
  have z28 : c_Z 58 (c_pt (ci_56 (c_pt (ci_52 (c_pt (ci_48 (c_pt (ci_44 (c_pt (ci_40 (c_pt (ci_36 (c_pt (ci_20 (c_pt (ci_4 (c_pt (ci_2 w) 11 1 0 2)) 11 1 1 4)) 11 1 2 20)) 11 1 3 36)) 11 1 4 40)) 11 1 5 44)) 11 1 6 48)) 11 1 7 52)) 11 1 8 56) := z27.le (by decide)
  have z29 : c_Z 59 (ci_58 (c_pt (ci_56 (c_pt (ci_52 (c_pt (ci_48 (c_pt (ci_44 (c_pt (ci_40 (c_pt (ci_36 (c_pt (ci_20 (c_pt (ci_4 (c_pt (ci_2 w) 11 1 0 2)) 11 1 1 4)) 11 1 2 20)) 11 1 3 36)) 11 1 4 40)) 11 1 5 44)) 11 1 6 48)) 11 1 7 52)) 11 1 8 56)) := cz_58 z28
  have z30 : c_Z 59 (c_pt (ci_58 (c_pt (ci_56 (c_pt (ci_52 (c_pt (ci_48 (c_pt (ci_44 (c_pt (ci_40 (c_pt (ci_36 (c_pt (ci_20 (c_pt (ci_4 (c_pt (ci_2 w) 11 1 0 2)) 11 1 1 4)) 11 1 2 20)) 11 1 3 36)) 11 1 4 40)) 11 1 5 44)) 11 1 6 48)) 11 1 7 52)) 11 1 8 56)) 11 1 9 58) := z29.pt (by decide)
  have z31 : c_Z 60 (c_pt (ci_58 (c_pt (ci_56 (c_pt (ci_52 (c_pt (ci_48 (c_pt (ci_44 (c_pt (ci_40 (c_pt (ci_36 (c_pt (ci_20 (c_pt (ci_4 (c_pt (ci_2 w) 11 1 0 2)) 11 1 1 4)) 11 1 2 20)) 11 1 3 36)) 11 1 4 40)) 11 1 5 44)) 11 1 6 48)) 11 1 7 52)) 11 1 8 56)) 11 1 9 58) := z30.le (by decide)
  have z32 : c_Z 60 (c_pt (c_pt (ci_58 (c_pt (ci_56 (c_pt (ci_52 (c_pt (ci_48 (c_pt (ci_44 (c_pt (ci_40 (c_pt (ci_36 (c_pt (ci_20 (c_pt (ci_4 (c_pt (ci_2 w) 11 1 0 2)) 11 1 1 4)) 11 1 2 20)) 11 1 3 36)) 11 1 4 40)) 11 1 5 44)) 11 1 6 48)) 11 1 7 52)) 11 1 8 56)) 11 1 9 58) 11 1 10 60) := z31.pt (by decide)
  have z33 : c_Z 61 (c_pt (c_pt (ci_58 (c_pt (ci_56 (c_pt (ci_52 (c_pt (ci_48 (c_pt (ci_44 (c_pt (ci_40 (c_pt (ci_36 (c_pt (ci_20 (c_pt (ci_4 (c_pt (ci_2 w) 11 1 0 2)) 11 1 1 4)) 11 1 2 20)) 11 1 3 36)) 11 1 4 40)) 11 1 5 44)) 11 1 6 48)) 11 1 7 52)) 11 1 8 56)) 11 1 9 58) 11 1 10 60) := z32.le (by decide)
  have z34 : c_Z 62 (ci_61 (c_pt (c_pt (ci_58 (c_pt (ci_56 (c_pt (ci_52 (c_pt (ci_48 (c_pt (ci_44 (c_pt (ci_40 (c_pt (ci_36 (c_pt (ci_20 (c_pt (ci_4 (c_pt (ci_2 w) 11 1 0 2)) 11 1 1 4)) 11 1 2 20)) 11 1 3 36)) 11 1 4 40)) 11 1 5 44)) 11 1 6 48)) 11 1 7 52)) 11 1 8 56)) 11 1 9 58) 11 1 10 60)) := cz_61 z33
  have z35 : c_Z 62 (c_pt (ci_61 (c_pt (c_pt (ci_58 (c_pt (ci_56 (c_pt (ci_52 (c_pt (ci_48 (c_pt (ci_44 (c_pt (ci_40 (c_pt (ci_36 (c_pt (ci_20 (c_pt (ci_4 (c_pt (ci_2 w) 11 1 0 2)) 11 1 1 4)) 11 1 2 20)) 11 1 3 36)) 11 1 4 40)) 11 1 5 44)) 11 1 6 48)) 11 1 7 52)) 11 1 8 56)) 11 1 9 58) 11 1 10 60)) 17 60 0 61) := z34.pt (by decide)
  have z36 : c_Z 63 (c_pt (ci_61 (c_pt (c_pt (ci_58 (c_pt (ci_56 (c_pt (ci_52 (c_pt (ci_48 (c_pt (ci_44 (c_pt (ci_40 (c_pt (ci_36 (c_pt (ci_20 (c_pt (ci_4 (c_pt (ci_2 w) 11 1 0 2)) 11 1 1 4)) 11 1 2 20)) 11 1 3 36)) 11 1 4 40)) 11 1 5 44)) 11 1 6 48)) 11 1 7 52)) 11 1 8 56)) 11 1 9 58) 11 1 10 60)) 17 60 0 61) := z35.le (by decide)
  have z37 : c_Z 64 (ci_63 (c_pt (ci_61 (c_pt (c_pt (ci_58 (c_pt (ci_56 (c_pt (ci_52 (c_pt (ci_48 (c_pt (ci_44 (c_pt (ci_40 (c_pt (ci_36 (c_pt (ci_20 (c_pt (ci_4 (c_pt (ci_2 w) 11 1 0 2)) 11 1 1 4)) 11 1 2 20)) 11 1 3 36)) 11 1 4 40)) 11 1 5 44)) 11 1 6 48)) 11 1 7 52)) 11 1 8 56)) 11 1 9 58) 11 1 10 60)) 17 60 0 61)) := cz_63 z36
  have z38 : c_Z 64 (c_pt (ci_63 (c_pt (ci_61 (c_pt (c_pt (ci_58 (c_pt (ci_56 (c_pt (ci_52 (c_pt (ci_48 (c_pt (ci_44 (c_pt (ci_40 (c_pt (ci_36 (c_pt (ci_20 (c_pt (ci_4 (c_pt (ci_2 w) 11 1 0 2)) 11 1 1 4)) 11 1 2 20)) 11 1 3 36)) 11 1 4 40)) 11 1 5 44)) 11 1 6 48)) 11 1 7 52)) 11 1 8 56)) 11 1 9 58) 11 1 10 60)) 17 60 0 61)) 17 60 1 63) := z37.pt (by decide)
  have z39 : c_Z 65 (c_pt (ci_63 (c_pt (ci_61 (c_pt (c_pt (ci_58 (c_pt (ci_56 (c_pt (ci_52 (c_pt (ci_48 (c_pt (ci_44 (c_pt (ci_40 (c_pt (ci_36 (c_pt (ci_20 (c_pt (ci_4 (c_pt (ci_2 w) 11 1 0 2)) 11 1 1 4)) 11 1 2 20)) 11 1 3 36)) 11 1 4 40)) 11 1 5 44)) 11 1 6 48)) 11 1 7 52)) 11 1 8 56)) 11 1 9 58) 11 1 10 60)) 17 60 0 61)) 17 60 1 63) := z38.le (by decide)
  have z40 : c_Z 66 (ci_65 (c_pt (ci_63 (c_pt (ci_61 (c_pt (c_pt (ci_58 (c_pt (ci_56 (c_pt (ci_52 (c_pt (ci_48 (c_pt (ci_44 (c_pt (ci_40 (c_pt (ci_36 (c_pt (ci_20 (c_pt (ci_4 (c_pt (ci_2 w) 11 1 0 2)) 11 1 1 4)) 11 1 2 20)) 11 1 3 36)) 11 1 4 40)) 11 1 5 44)) 11 1 6 48)) 11 1 7 52)) 11 1 8 56)) 11 1 9 58) 11 1 10 60)) 17 60 0 61)) 17 60 1 63)) := cz_65 z39
  have z41 : c_Z 66 (c_pt (ci_65 (c_pt (ci_63 (c_pt (ci_61 (c_pt (c_pt (ci_58 (c_pt (ci_56 (c_pt (ci_52 (c_pt (ci_48 (c_pt (ci_44 (c_pt (ci_40 (c_pt (ci_36 (c_pt (ci_20 (c_pt (ci_4 (c_pt (ci_2 w) 11 1 0 2)) 11 1 1 4)) 11 1 2 20)) 11 1 3 36)) 11 1 4 40)) 11 1 5 44)) 11 1 6 48)) 11 1 7 52)) 11 1 8 56)) 11 1 9 58) 11 1 10 60)) 17 60 0 61)) 17 60 1 63)) 17 60 2 65) := z40.pt (by decide)
  have z42 : c_Z 67 (c_pt (ci_65 (c_pt (ci_63 (c_pt (ci_61 (c_pt (c_pt (ci_58 (c_pt (ci_56 (c_pt (ci_52 (c_pt (ci_48 (c_pt (ci_44 (c_pt (ci_40 (c_pt (ci_36 (c_pt (ci_20 (c_pt (ci_4 (c_pt (ci_2 w) 11 1 0 2)) 11 1 1 4)) 11 1 2 20)) 11 1 3 36)) 11 1 4 40)) 11 1 5 44)) 11 1 6 48)) 11 1 7 52)) 11 1 8 56)) 11 1 9 58) 11 1 10 60)) 17 60 0 61)) 17 60 1 63)) 17 60 2 65) := z41.le (by decide)
  have z43 : c_Z 69 (ci_67 (c_pt (ci_65 (c_pt (ci_63 (c_pt (ci_61 (c_pt (c_pt (ci_58 (c_pt (ci_56 (c_pt (ci_52 (c_pt (ci_48 (c_pt (ci_44 (c_pt (ci_40 (c_pt (ci_36 (c_pt (ci_20 (c_pt (ci_4 (c_pt (ci_2 w) 11 1 0 2)) 11 1 1 4)) 11 1 2 20)) 11 1 3 36)) 11 1 4 40)) 11 1 5 44)) 11 1 6 48)) 11 1 7 52)) 11 1 8 56)) 11 1 9 58) 11 1 10 60)) 17 60 0 61)) 17 60 1 63)) 17 60 2 65)) := cz_67 z42
  have z44 : c_Z 69 (c_pt (ci_67 (c_pt (ci_65 (c_pt (ci_63 (c_pt (ci_61 (c_pt (c_pt (ci_58 (c_pt (ci_56 (c_pt (ci_52 (c_pt (ci_48 (c_pt (ci_44 (c_pt (ci_40 (c_pt (ci_36 (c_pt (ci_20 (c_pt (ci_4 (c_pt (ci_2 w) 11 1 0 2)) 11 1 1 4)) 11 1 2 20)) 11 1 3 36)) 11 1 4 40)) 11 1 5 44)) 11 1 6 48)) 11 1 7 52)) 11 1 8 56)) 11 1 9 58) 11 1 10 60)) 17 60 0 61)) 17 60 1 63)) 17 60 2 65)) 11 1 15 67) := z43.pt (by decide)
  have z45 : c_Z 70 (c_pt (ci_67 (c_pt (ci_65 (c_pt (ci_63 (c_pt (ci_61 (c_pt (c_pt (ci_58 (c_pt (ci_56 (c_pt (ci_52 (c_pt (ci_48 (c_pt (ci_44 (c_pt (ci_40 (c_pt (ci_36 (c_pt (ci_20 (c_pt (ci_4 (c_pt (ci_2 w) 11 1 0 2)) 11 1 1 4)) 11 1 2 20)) 11 1 3 36)) 11 1 4 40)) 11 1 5 44)) 11 1 6 48)) 11 1 7 52)) 11 1 8 56)) 11 1 9 58) 11 1 10 60)) 17 60 0 61)) 17 60 1 63)) 17 60 2 65)) 11 1 15 67) := z44.le (by decide)
  have z46 : c_Z 72 (ci_70 (c_pt (ci_67 (c_pt (ci_65 (c_pt (ci_63 (c_pt (ci_61 (c_pt (c_pt (ci_58 (c_pt (ci_56 (c_pt (ci_52 (c_pt (ci_48 (c_pt (ci_44 (c_pt (ci_40 (c_pt (ci_36 (c_pt (ci_20 (c_pt (ci_4 (c_pt (ci_2 w) 11 1 0 2)) 11 1 1 4)) 11 1 2 20)) 11 1 3 36)) 11 1 4 40)) 11 1 5 44)) 11 1 6 48)) 11 1 7 52)) 11 1 8 56)) 11 1 9 58) 11 1 10 60)) 17 60 0 61)) 17 60 1 63)) 17 60 2 65)) 11 1 15 67)) := cz_70 z45
  have z47 : c_Z 72 (c_pt (ci_70 (c_pt (ci_67 (c_pt (ci_65 (c_pt (ci_63 (c_pt (ci_61 (c_pt (c_pt (ci_58 (c_pt (ci_56 (c_pt (ci_52 (c_pt (ci_48 (c_pt (ci_44 (c_pt (ci_40 (c_pt (ci_36 (c_pt (ci_20 (c_pt (ci_4 (c_pt (ci_2 w) 11 1 0 2)) 11 1 1 4)) 11 1 2 20)) 11 1 3 36)) 11 1 4 40)) 11 1 5 44)) 11 1 6 48)) 11 1 7 52)) 11 1 8 56)) 11 1 9 58) 11 1 10 60)) 17 60 0 61)) 17 60 1 63)) 17 60 2 65)) 11 1 15 67)) 11 1 16 70) := z46.pt (by decide)
  have z48 : c_Z 73 (c_pt (ci_70 (c_pt (ci_67 (c_pt (ci_65 (c_pt (ci_63 (c_pt (ci_61 (c_pt (c_pt (ci_58 (c_pt (ci_56 (c_pt (ci_52 (c_pt (ci_48 (c_pt (ci_44 (c_pt (ci_40 (c_pt (ci_36 (c_pt (ci_20 (c_pt (ci_4 (c_pt (ci_2 w) 11 1 0 2)) 11 1 1 4)) 11 1 2 20)) 11 1 3 36)) 11 1 4 40)) 11 1 5 44)) 11 1 6 48)) 11 1 7 52)) 11 1 8 56)) 11 1 9 58) 11 1 10 60)) 17 60 0 61)) 17 60 1 63)) 17 60 2 65)) 11 1 15 67)) 11 1 16 70) := z47.le (by decide)
  have z49 : c_Z 76 (ci_73 (c_pt (ci_70 (c_pt (ci_67 (c_pt (ci_65 (c_pt (ci_63 (c_pt (ci_61 (c_pt (c_pt (ci_58 (c_pt (ci_56 (c_pt (ci_52 (c_pt (ci_48 (c_pt (ci_44 (c_pt (ci_40 (c_pt (ci_36 (c_pt (ci_20 (c_pt (ci_4 (c_pt (ci_2 w) 11 1 0 2)) 11 1 1 4)) 11 1 2 20)) 11 1 3 36)) 11 1 4 40)) 11 1 5 44)) 11 1 6 48)) 11 1 7 52)) 11 1 8 56)) 11 1 9 58) 11 1 10 60)) 17 60 0 61)) 17 60 1 63)) 17 60 2 65)) 11 1 15 67)) 11 1 16 70)) := cz_73 z48
  have z50 : c_Z 76 (c_pt (ci_73 (c_pt (ci_70 (c_pt (ci_67 (c_pt (ci_65 (c_pt (ci_63 (c_pt (ci_61 (c_pt (c_pt (ci_58 (c_pt (ci_56 (c_pt (ci_52 (c_pt (ci_48 (c_pt (ci_44 (c_pt (ci_40 (c_pt (ci_36 (c_pt (ci_20 (c_pt (ci_4 (c_pt (ci_2 w) 11 1 0 2)) 11 1 1 4)) 11 1 2 20)) 11 1 3 36)) 11 1 4 40)) 11 1 5 44)) 11 1 6 48)) 11 1 7 52)) 11 1 8 56)) 11 1 9 58) 11 1 10 60)) 17 60 0 61)) 17 60 1 63)) 17 60 2 65)) 11 1 15 67)) 11 1 16 70)) 11 1 17 73) := z49.pt (by decide)
  have z51 : c_Z 77 (c_pt (ci_73 (c_pt (ci_70 (c_pt (ci_67 (c_pt (ci_65 (c_pt (ci_63 (c_pt (ci_61 (c_pt (c_pt (ci_58 (c_pt (ci_56 (c_pt (ci_52 (c_pt (ci_48 (c_pt (ci_44 (c_pt (ci_40 (c_pt (ci_36 (c_pt (ci_20 (c_pt (ci_4 (c_pt (ci_2 w) 11 1 0 2)) 11 1 1 4)) 11 1 2 20)) 11 1 3 36)) 11 1 4 40)) 11 1 5 44)) 11 1 6 48)) 11 1 7 52)) 11 1 8 56)) 11 1 9 58) 11 1 10 60)) 17 60 0 61)) 17 60 1 63)) 17 60 2 65)) 11 1 15 67)) 11 1 16 70)) 11 1 17 73) := z50.le (by decide)
  have z52 : c_Z 78 (ci_77 (c_pt (ci_73 (c_pt (ci_70 (c_pt (ci_67 (c_pt (ci_65 (c_pt (ci_63 (c_pt (ci_61 (c_pt (c_pt (ci_58 (c_pt (ci_56 (c_pt (ci_52 (c_pt (ci_48 (c_pt (ci_44 (c_pt (ci_40 (c_pt (ci_36 (c_pt (ci_20 (c_pt (ci_4 (c_pt (ci_2 w) 11 1 0 2)) 11 1 1 4)) 11 1 2 20)) 11 1 3 36)) 11 1 4 40)) 11 1 5 44)) 11 1 6 48)) 11 1 7 52)) 11 1 8 56)) 11 1 9 58) 11 1 10 60)) 17 60 0 61)) 17 60 1 63)) 17 60 2 65)) 11 1 15 67)) 11 1 16 70)) 11 1 17 73)) := cz_77 z51
  have z53 : c_Z 78 (c_pt (ci_77 (c_pt (ci_73 (c_pt (ci_70 (c_pt (ci_67 (c_pt (ci_65 (c_pt (ci_63 (c_pt (ci_61 (c_pt (c_pt (ci_58 (c_pt (ci_56 (c_pt (ci_52 (c_pt (ci_48 (c_pt (ci_44 (c_pt (ci_40 (c_pt (ci_36 (c_pt (ci_20 (c_pt (ci_4 (c_pt (ci_2 w) 11 1 0 2)) 11 1 1 4)) 11 1 2 20)) 11 1 3 36)) 11 1 4 40)) 11 1 5 44)) 11 1 6 48)) 11 1 7 52)) 11 1 8 56)) 11 1 9 58) 11 1 10 60)) 17 60 0 61)) 17 60 1 63)) 17 60 2 65)) 11 1 15 67)) 11 1 16 70)) 11 1 17 73)) 11 1 18 77) := z52.pt (by decide)
  exact z53
set_option maxHeartbeats 4000000 in
theorem cv_1 {w : q_Mem} (hz : c_Z 1 w) : c_EvA 5 77 6245 mX11_init 1 true w [.ref 1] (fun r n' w' => r = none ∧ n' = 78 ∧ w' = ci_1 w) := by
  refine c_evA (by decide +kernel) rfl (Nat.le_of_ble_eq_true rfl) rfl ?_
  show p_Ex c_InA 5 77 6245 mX11_init 1 true (0, [some (.ref (1)), none], [], w) _ _
  refine pg_blk [(.aload_n 0, 1, 0, 0)] 1 [some (.ref (1)), none] [.ref (1)] w [] (by decide +kernel) (by refine gt_aload_n (r := 1) rfl ?_; exact gt_z rfl rfl rfl rfl rfl) trivial ?_
  refine p_Ex_obj (by decide) (by decide +kernel) (Nat.le_of_ble_eq_true rfl) (by decide) c_OW11 ?_
  refine pg_blk [(.aload_n 0, 1, 0, 0)] 5 [some (.ref (1)), none] [.ref (1)] w [] (by decide +kernel) (by refine gt_aload_n (r := 1) rfl ?_; exact gt_z rfl rfl rfl rfl rfl) trivial ?_
  refine p_Ex_new (idx := 7) (a := 76) (b := 6238) (x := 10) (by decide) (by decide) rfl ⟨(hz 2 (by decide)).1, (hz 2 (by decide)).2.2⟩ (by decide +kernel) c_NW11_7 ?_
  have z1 : c_Z 2 w := hz.le (by decide)
  refine pg_blk [(.dup, 1, 0, 0)] 9 [some (.ref (1)), none] [.ref (2), .ref (2), .ref (1)] w [] (by decide +kernel) (by refine gt_dupR ?_; exact gt_z rfl rfl rfl rfl rfl) trivial ?_
  refine p_Ex_callI (idx := 9) (d' := 1) (a' := 1) (b' := 600) (M' := mX10_init) c_IW10 (by decide) (Or.inr (by decide +kernel)) (by decide +kernel) (cv_2 z1) (by decide) (Nat.le_of_ble_eq_true rfl) (by decide) (by decide) (by decide) (fun _ r n' w' h => h.2.1) ?_
  rintro r n' w' ⟨rfl, rfl, rfl⟩
  show p_Ex c_InA 5 75 5638 mX11_init 3 true (12, [some (.ref (1)), none], [.ref (2), .ref (1)], (ci_2 w)) _ _
  have z2 : c_Z 3 (ci_2 w) := cz_2 z1
  refine p_Ex_putF (idx := 10) (x := 11) (k := 0) (fun _ _ _ _ _ h => h.1) (by decide) (by decide) (by decide +kernel) rfl rfl rfl (q_id_of rfl) (by decide +kernel) ?_
  show p_Ex c_InA 5 75 5638 mX11_init 3 true (15, [some (.ref (1)), none], [], (c_pt (ci_2 w) 11 1 0 2)) _ _
  have z3 : c_Z 3 (c_pt (ci_2 w) 11 1 0 2) := z2.pt (by decide)
  refine pg_blk [(.aload_n 0, 1, 0, 0)] 16 [some (.ref (1)), none] [.ref (1)] (c_pt (ci_2 w) 11 1 0 2) [] (by decide +kernel) (by refine gt_aload_n (r := 1) rfl ?_; exact gt_z rfl rfl rfl rfl rfl) trivial ?_
  refine p_Ex_new (idx := 16) (a := 74) (b := 5618) (x := 2) (by decide) (by decide) rfl ⟨(z3 4 (by decide)).1, (z3 4 (by decide)).2.2⟩ (by decide +kernel) c_NW11_16 ?_
  have z4 : c_Z 4 (c_pt (ci_2 w) 11 1 0 2) := z3.le (by decide)
  refine pg_blk [(.dup, 1, 0, 0)] 20 [some (.ref (1)), none] [.ref (4), .ref (4), .ref (1)] (c_pt (ci_2 w) 11 1 0 2) [] (by decide +kernel) (by refine gt_dupR ?_; exact gt_z rfl rfl rfl rfl rfl) trivial ?_
  refine p_Ex_callI (idx := 18) (d' := 1) (a' := 15) (b' := 198) (M' := mX2_init) c_IW2 (by decide) (Or.inr (by decide +kernel)) (by decide +kernel) (cv_4 z4) (by decide) (Nat.le_of_ble_eq_true rfl) (by decide) (by decide) (by decide) (fun _ r n' w' h => h.2.1) ?_
  rintro r n' w' ⟨rfl, rfl, rfl⟩
  show p_Ex c_InA 5 59 5420 mX11_init 19 true (23, [some (.ref (1)), none], [.ref (4), .ref (1)], (ci_4 (c_pt (ci_2 w) 11 1 0 2))) _ _
  have z5 : c_Z 19 (ci_4 (c_pt (ci_2 w) 11 1 0 2)) := cz_4 z4
  refine pg_blk [(.putfield 19, 3, 11, 1)] 26 [some (.ref (1)), none] [] (c_pt (ci_4 (c_pt (ci_2 w) 11 1 0 2)) 11 1 1 4) [q_id 19 11 1] (by decide +kernel) (by refine gt_putR rfl ?_; exact gt_z rfl rfl rfl rfl rfl) (q_id_of rfl) ?_
  have z6 : c_Z 19 (c_pt (ci_4 (c_pt (ci_2 w) 11 1 0 2)) 11 1 1 4) := z5.pt (by decide)
  refine pg_blk [(.aload_n 0, 1, 0, 0)] 27 [some (.ref (1)), none] [.ref (1)] (c_pt (ci_4 (c_pt (ci_2 w) 11 1 0 2)) 11 1 1 4) [] (by decide +kernel) (by refine gt_aload_n (r := 1) rfl ?_; exact gt_z rfl rfl rfl rfl rfl) trivial ?_
  refine p_Ex_new (idx := 16) (a := 58) (b := 5400) (x := 2) (by decide) (by decide) rfl ⟨(z6 20 (by decide)).1, (z6 20 (by decide)).2.2⟩ (by decide +kernel) c_NW11_16 ?_
  have z7 : c_Z 20 (c_pt (ci_4 (c_pt (ci_2 w) 11 1 0 2)) 11 1 1 4) := z6.le (by decide)
  refine pg_blk [(.dup, 1, 0, 0)] 31 [some (.ref (1)), none] [.ref (20), .ref (20), .ref (1)] (c_pt (ci_4 (c_pt (ci_2 w) 11 1 0 2)) 11 1 1 4) [] (by decide +kernel) (by refine gt_dupR ?_; exact gt_z rfl rfl rfl rfl rfl) trivial ?_
  refine p_Ex_callI (idx := 18) (d' := 1) (a' := 15) (b' := 198) (M' := mX2_init) c_IW2 (by decide) (Or.inr (by decide +kernel)) (by decide +kernel) (cv_20 z7) (by decide) (Nat.le_of_ble_eq_true rfl) (by decide) (by decide) (by decide) (fun _ r n' w' h => h.2.1) ?_
  rintro r n' w' ⟨rfl, rfl, rfl⟩
  show p_Ex c_InA 5 43 5202 mX11_init 35 true (34, [some (.ref (1)), none], [.ref (20), .ref (1)], (ci_20 (c_pt (ci_4 (c_pt (ci_2 w) 11 1 0 2)) 11 1 1 4))) _ _
  have z8 : c_Z 35 (ci_20 (c_pt (ci_4 (c_pt (ci_2 w) 11 1 0 2)) 11 1 1 4)) := cz_20 z7
  refine pg_blk [(.putfield 23, 3, 11, 2)] 37 [some (.ref (1)), none] [] (c_pt (ci_20 (c_pt (ci_4 (c_pt (ci_2 w) 11 1 0 2)) 11 1 1 4)) 11 1 2 20) [q_id 35 11 1] (by decide +kernel) (by refine gt_putR rfl ?_; exact gt_z rfl rfl rfl rfl rfl) (q_id_of rfl) ?_
  have z9 : c_Z 35 (c_pt (ci_20 (c_pt (ci_4 (c_pt (ci_2 w) 11 1 0 2)) 11 1 1 4)) 11 1 2 20) := z8.pt (by decide)
  refine pg_blk [(.aload_n 0, 1, 0, 0)] 38 [some (.ref (1)), none] [.ref (1)] (c_pt (ci_20 (c_pt (ci_4 (c_pt (ci_2 w) 11 1 0 2)) 11 1 1 4)) 11 1 2 20) [] (by decide +kernel) (by refine gt_aload_n (r := 1) rfl ?_; exact gt_z rfl rfl rfl rfl rfl) trivial ?_
  refine p_Ex_new (idx := 26) (a := 42) (b := 5198) (x := 5) (by decide) (by decide) rfl ⟨(z9 36 (by decide)).1, (z9 36 (by decide)).2.2⟩ (by decide +kernel) c_NW11_26 ?_
  have z10 : c_Z 36 (c_pt (ci_20 (c_pt (ci_4 (c_pt (ci_2 w) 11 1 0 2)) 11 1 1 4)) 11 1 2 20) := z9.le (by decide)
  refine pg_blk [(.dup, 1, 0, 0)] 42 [some (.ref (1)), none] [.ref (36), .ref (36), .ref (1)] (c_pt (ci_20 (c_pt (ci_4 (c_pt (ci_2 w) 11 1 0 2)) 11 1 1 4)) 11 1 2 20) [] (by decide +kernel) (by refine gt_dupR ?_; exact gt_z rfl rfl rfl rfl rfl) trivial ?_
  refine p_Ex_callI (idx := 28) (d' := 4) (a' := 3) (b' := 197) (M' := mX5_init) c_IW5 (by decide) (Or.inl ((q_inTB [280] (by decide +kernel) (by decide +kernel) : ∀ w ∈ [Cond.methodLink (q_own 11) 28 mX5_init.2.1], w ∈ q_TB) _ List.mem_cons_self)) (by decide +kernel) (cv_36 z10) (by decide) (Nat.le_of_ble_eq_true rfl) (by decide) (by decide) (by decide) (fun _ r n' w' h => h.2.1) ?_
  rintro r n' w' ⟨rfl, rfl, rfl⟩
  show p_Ex c_InA 5 39 5001 mX11_init 39 true (45, [some (.ref (1)), none], [.ref (36), .ref (1)], (ci_36 (c_pt (ci_20 (c_pt (ci_4 (c_pt (ci_2 w) 11 1 0 2)) 11 1 1 4)) 11 1 2 20))) _ _
  have z11 : c_Z 39 (ci_36 (c_pt (ci_20 (c_pt (ci_4 (c_pt (ci_2 w) 11 1 0 2)) 11 1 1 4)) 11 1 2 20)) := cz_36 z10
  refine pg_blk [(.putfield 29, 3, 11, 3)] 48 [some (.ref (1)), none] [] (c_pt (ci_36 (c_pt (ci_20 (c_pt (ci_4 (c_pt (ci_2 w) 11 1 0 2)) 11 1 1 4)) 11 1 2 20)) 11 1 3 36) [q_id 39 11 1] (by decide +kernel) (by refine gt_putR rfl ?_; exact gt_z rfl rfl rfl rfl rfl) (q_id_of rfl) ?_
  have z12 : c_Z 39 (c_pt (ci_36 (c_pt (ci_20 (c_pt (ci_4 (c_pt (ci_2 w) 11 1 0 2)) 11 1 1 4)) 11 1 2 20)) 11 1 3 36) := z11.pt (by decide)
  refine pg_blk [(.aload_n 0, 1, 0, 0)] 49 [some (.ref (1)), none] [.ref (1)] (c_pt (ci_36 (c_pt (ci_20 (c_pt (ci_4 (c_pt (ci_2 w) 11 1 0 2)) 11 1 1 4)) 11 1 2 20)) 11 1 3 36) [] (by decide +kernel) (by refine gt_aload_n (r := 1) rfl ?_; exact gt_z rfl rfl rfl rfl rfl) trivial ?_
  refine p_Ex_new (idx := 26) (a := 38) (b := 4997) (x := 5) (by decide) (by decide) rfl ⟨(z12 40 (by decide)).1, (z12 40 (by decide)).2.2⟩ (by decide +kernel) c_NW11_26 ?_
  have z13 : c_Z 40 (c_pt (ci_36 (c_pt (ci_20 (c_pt (ci_4 (c_pt (ci_2 w) 11 1 0 2)) 11 1 1 4)) 11 1 2 20)) 11 1 3 36) := z12.le (by decide)
  refine pg_blk [(.dup, 1, 0, 0)] 53 [some (.ref (1)), none] [.ref (40), .ref (40), .ref (1)] (c_pt (ci_36 (c_pt (ci_20 (c_pt (ci_4 (c_pt (ci_2 w) 11 1 0 2)) 11 1 1 4)) 11 1 2 20)) 11 1 3 36) [] (by decide +kernel) (by refine gt_dupR ?_; exact gt_z rfl rfl rfl rfl rfl) trivial ?_
  refine p_Ex_callI (idx := 28) (d' := 4) (a' := 3) (b' := 197) (M' := mX5_init) c_IW5 (by decide) (Or.inl ((q_inTB [280] (by decide +kernel) (by decide +kernel) : ∀ w ∈ [Cond.methodLink (q_own 11) 28 mX5_init.2.1], w ∈ q_TB) _ List.mem_cons_self)) (by decide +kernel) (cv_40 z13) (by decide) (Nat.le_of_ble_eq_true rfl) (by decide) (by decide) (by decide) (fun _ r n' w' h => h.2.1) ?_
  rintro r n' w' ⟨rfl, rfl, rfl⟩
  show p_Ex c_InA 5 35 4800 mX11_init 43 true (56, [some (.ref (1)), none], [.ref (40), .ref (1)], (ci_40 (c_pt (ci_36 (c_pt (ci_20 (c_pt (ci_4 (c_pt (ci_2 w) 11 1 0 2)) 11 1 1 4)) 11 1 2 20)) 11 1 3 36))) _ _
  have z14 : c_Z 43 (ci_40 (c_pt (ci_36 (c_pt (ci_20 (c_pt (ci_4 (c_pt (ci_2 w) 11 1 0 2)) 11 1 1 4)) 11 1 2 20)) 11 1 3 36)) := cz_40 z13
  refine pg_blk [(.putfield 33, 3, 11, 4)] 59 [some (.ref (1)), none] [] (c_pt (ci_40 (c_pt (ci_36 (c_pt (ci_20 (c_pt (ci_4 (c_pt (ci_2 w) 11 1 0 2)) 11 1 1 4)) 11 1 2 20)) 11 1 3 36)) 11 1 4 40) [q_id 43 11 1] (by decide +kernel) (by refine gt_putR rfl ?_; exact gt_z rfl rfl rfl rfl rfl) (q_id_of rfl) ?_
  have z15 : c_Z 43 (c_pt (ci_40 (c_pt (ci_36 (c_pt (ci_20 (c_pt (ci_4 (c_pt (ci_2 w) 11 1 0 2)) 11 1 1 4)) 11 1 2 20)) 11 1 3 36)) 11 1 4 40) := z14.pt (by decide)
  refine pg_blk [(.aload_n 0, 1, 0, 0)] 60 [some (.ref (1)), none] [.ref (1)] (c_pt (ci_40 (c_pt (ci_36 (c_pt (ci_20 (c_pt (ci_4 (c_pt (ci_2 w) 11 1 0 2)) 11 1 1 4)) 11 1 2 20)) 11 1 3 36)) 11 1 4 40) [] (by decide +kernel) (by refine gt_aload_n (r := 1) rfl ?_; exact gt_z rfl rfl rfl rfl rfl) trivial ?_
  refine p_Ex_new (idx := 36) (a := 34) (b := 4793) (x := 1) (by decide) (by decide) rfl ⟨(z15 44 (by decide)).1, (z15 44 (by decide)).2.2⟩ (by decide +kernel) c_NW11_36 ?_
  have z16 : c_Z 44 (c_pt (ci_40 (c_pt (ci_36 (c_pt (ci_20 (c_pt (ci_4 (c_pt (ci_2 w) 11 1 0 2)) 11 1 1 4)) 11 1 2 20)) 11 1 3 36)) 11 1 4 40) := z15.le (by decide)
  refine pg_blk [(.dup, 1, 0, 0)] 64 [some (.ref (1)), none] [.ref (44), .ref (44), .ref (1)] (c_pt (ci_40 (c_pt (ci_36 (c_pt (ci_20 (c_pt (ci_4 (c_pt (ci_2 w) 11 1 0 2)) 11 1 1 4)) 11 1 2 20)) 11 1 3 36)) 11 1 4 40) [] (by decide +kernel) (by refine gt_dupR ?_; exact gt_z rfl rfl rfl rfl rfl) trivial ?_
  refine p_Ex_callI (idx := 38) (d' := 1) (a' := 3) (b' := 30) (M' := mX1_init) c_IW1 (by decide) (Or.inr (by decide +kernel)) (by decide +kernel) (cv_44 z16) (by decide) (Nat.le_of_ble_eq_true rfl) (by decide) (by decide) (by decide) (fun _ r n' w' h => h.2.1) ?_
  rintro r n' w' ⟨rfl, rfl, rfl⟩
  show p_Ex c_InA 5 31 4763 mX11_init 47 true (67, [some (.ref (1)), none], [.ref (44), .ref (1)], (ci_44 (c_pt (ci_40 (c_pt (ci_36 (c_pt (ci_20 (c_pt (ci_4 (c_pt (ci_2 w) 11 1 0 2)) 11 1 1 4)) 11 1 2 20)) 11 1 3 36)) 11 1 4 40))) _ _
  have z17 : c_Z 47 (ci_44 (c_pt (ci_40 (c_pt (ci_36 (c_pt (ci_20 (c_pt (ci_4 (c_pt (ci_2 w) 11 1 0 2)) 11 1 1 4)) 11 1 2 20)) 11 1 3 36)) 11 1 4 40)) := cz_44 z16
  refine pg_blk [(.putfield 39, 3, 11, 5)] 70 [some (.ref (1)), none] [] (c_pt (ci_44 (c_pt (ci_40 (c_pt (ci_36 (c_pt (ci_20 (c_pt (ci_4 (c_pt (ci_2 w) 11 1 0 2)) 11 1 1 4)) 11 1 2 20)) 11 1 3 36)) 11 1 4 40)) 11 1 5 44) [q_id 47 11 1] (by decide +kernel) (by refine gt_putR rfl ?_; exact gt_z rfl rfl rfl rfl rfl) (q_id_of rfl) ?_
  have z18 : c_Z 47 (c_pt (ci_44 (c_pt (ci_40 (c_pt (ci_36 (c_pt (ci_20 (c_pt (ci_4 (c_pt (ci_2 w) 11 1 0 2)) 11 1 1 4)) 11 1 2 20)) 11 1 3 36)) 11 1 4 40)) 11 1 5 44) := z17.pt (by decide)
  refine pg_blk [(.aload_n 0, 1, 0, 0)] 71 [some (.ref (1)), none] [.ref (1)] (c_pt (ci_44 (c_pt (ci_40 (c_pt (ci_36 (c_pt (ci_20 (c_pt (ci_4 (c_pt (ci_2 w) 11 1 0 2)) 11 1 1 4)) 11 1 2 20)) 11 1 3 36)) 11 1 4 40)) 11 1 5 44) [] (by decide +kernel) (by refine gt_aload_n (r := 1) rfl ?_; exact gt_z rfl rfl rfl rfl rfl) trivial ?_
  refine p_Ex_new (idx := 36) (a := 30) (b := 4756) (x := 1) (by decide) (by decide) rfl ⟨(z18 48 (by decide)).1, (z18 48 (by decide)).2.2⟩ (by decide +kernel) c_NW11_36 ?_
  have z19 : c_Z 48 (c_pt (ci_44 (c_pt (ci_40 (c_pt (ci_36 (c_pt (ci_20 (c_pt (ci_4 (c_pt (ci_2 w) 11 1 0 2)) 11 1 1 4)) 11 1 2 20)) 11 1 3 36)) 11 1 4 40)) 11 1 5 44) := z18.le (by decide)
  refine pg_blk [(.dup, 1, 0, 0)] 75 [some (.ref (1)), none] [.ref (48), .ref (48), .ref (1)] (c_pt (ci_44 (c_pt (ci_40 (c_pt (ci_36 (c_pt (ci_20 (c_pt (ci_4 (c_pt (ci_2 w) 11 1 0 2)) 11 1 1 4)) 11 1 2 20)) 11 1 3 36)) 11 1 4 40)) 11 1 5 44) [] (by decide +kernel) (by refine gt_dupR ?_; exact gt_z rfl rfl rfl rfl rfl) trivial ?_
  refine p_Ex_callI (idx := 38) (d' := 1) (a' := 3) (b' := 30) (M' := mX1_init) c_IW1 (by decide) (Or.inr (by decide +kernel)) (by decide +kernel) (cv_48 z19) (by decide) (Nat.le_of_ble_eq_true rfl) (by decide) (by decide) (by decide) (fun _ r n' w' h => h.2.1) ?_
  rintro r n' w' ⟨rfl, rfl, rfl⟩
  show p_Ex c_InA 5 27 4726 mX11_init 51 true (78, [some (.ref (1)), none], [.ref (48), .ref (1)], (ci_48 (c_pt (ci_44 (c_pt (ci_40 (c_pt (ci_36 (c_pt (ci_20 (c_pt (ci_4 (c_pt (ci_2 w) 11 1 0 2)) 11 1 1 4)) 11 1 2 20)) 11 1 3 36)) 11 1 4 40)) 11 1 5 44))) _ _
  have z20 : c_Z 51 (ci_48 (c_pt (ci_44 (c_pt (ci_40 (c_pt (ci_36 (c_pt (ci_20 (c_pt (ci_4 (c_pt (ci_2 w) 11 1 0 2)) 11 1 1 4)) 11 1 2 20)) 11 1 3 36)) 11 1 4 40)) 11 1 5 44)) := cz_48 z19
  refine pg_blk [(.putfield 43, 3, 11, 6)] 81 [some (.ref (1)), none] [] (c_pt (ci_48 (c_pt (ci_44 (c_pt (ci_40 (c_pt (ci_36 (c_pt (ci_20 (c_pt (ci_4 (c_pt (ci_2 w) 11 1 0 2)) 11 1 1 4)) 11 1 2 20)) 11 1 3 36)) 11 1 4 40)) 11 1 5 44)) 11 1 6 48) [q_id 51 11 1] (by decide +kernel) (by refine gt_putR rfl ?_; exact gt_z rfl rfl rfl rfl rfl) (q_id_of rfl) ?_
  have z21 : c_Z 51 (c_pt (ci_48 (c_pt (ci_44 (c_pt (ci_40 (c_pt (ci_36 (c_pt (ci_20 (c_pt (ci_4 (c_pt (ci_2 w) 11 1 0 2)) 11 1 1 4)) 11 1 2 20)) 11 1 3 36)) 11 1 4 40)) 11 1 5 44)) 11 1 6 48) := z20.pt (by decide)
  refine pg_blk [(.aload_n 0, 1, 0, 0)] 82 [some (.ref (1)), none] [.ref (1)] (c_pt (ci_48 (c_pt (ci_44 (c_pt (ci_40 (c_pt (ci_36 (c_pt (ci_20 (c_pt (ci_4 (c_pt (ci_2 w) 11 1 0 2)) 11 1 1 4)) 11 1 2 20)) 11 1 3 36)) 11 1 4 40)) 11 1 5 44)) 11 1 6 48) [] (by decide +kernel) (by refine gt_aload_n (r := 1) rfl ?_; exact gt_z rfl rfl rfl rfl rfl) trivial ?_
  refine p_Ex_new (idx := 46) (a := 26) (b := 4719) (x := 9) (by decide) (by decide) rfl ⟨(z21 52 (by decide)).1, (z21 52 (by decide)).2.2⟩ (by decide +kernel) c_NW11_46 ?_
  have z22 : c_Z 52 (c_pt (ci_48 (c_pt (ci_44 (c_pt (ci_40 (c_pt (ci_36 (c_pt (ci_20 (c_pt (ci_4 (c_pt (ci_2 w) 11 1 0 2)) 11 1 1 4)) 11 1 2 20)) 11 1 3 36)) 11 1 4 40)) 11 1 5 44)) 11 1 6 48) := z21.le (by decide)
  refine pg_blk [(.dup, 1, 0, 0)] 86 [some (.ref (1)), none] [.ref (52), .ref (52), .ref (1)] (c_pt (ci_48 (c_pt (ci_44 (c_pt (ci_40 (c_pt (ci_36 (c_pt (ci_20 (c_pt (ci_4 (c_pt (ci_2 w) 11 1 0 2)) 11 1 1 4)) 11 1 2 20)) 11 1 3 36)) 11 1 4 40)) 11 1 5 44)) 11 1 6 48) [] (by decide +kernel) (by refine gt_dupR ?_; exact gt_z rfl rfl rfl rfl rfl) trivial ?_
  refine p_Ex_callI (idx := 48) (d' := 1) (a' := 3) (b' := 450) (M' := mX9_init) c_IW9 (by decide) (Or.inr (by decide +kernel)) (by decide +kernel) (cv_52 z22) (by decide) (Nat.le_of_ble_eq_true rfl) (by decide) (by decide) (by decide) (fun _ r n' w' h => h.2.1) ?_
  rintro r n' w' ⟨rfl, rfl, rfl⟩
  show p_Ex c_InA 5 23 4269 mX11_init 55 true (89, [some (.ref (1)), none], [.ref (52), .ref (1)], (ci_52 (c_pt (ci_48 (c_pt (ci_44 (c_pt (ci_40 (c_pt (ci_36 (c_pt (ci_20 (c_pt (ci_4 (c_pt (ci_2 w) 11 1 0 2)) 11 1 1 4)) 11 1 2 20)) 11 1 3 36)) 11 1 4 40)) 11 1 5 44)) 11 1 6 48))) _ _
  have z23 : c_Z 55 (ci_52 (c_pt (ci_48 (c_pt (ci_44 (c_pt (ci_40 (c_pt (ci_36 (c_pt (ci_20 (c_pt (ci_4 (c_pt (ci_2 w) 11 1 0 2)) 11 1 1 4)) 11 1 2 20)) 11 1 3 36)) 11 1 4 40)) 11 1 5 44)) 11 1 6 48)) := cz_52 z22
  refine p_Ex_putF (idx := 49) (x := 11) (k := 7) (fun _ _ _ _ _ h => h.1) (by decide) (by decide) (by decide +kernel) rfl rfl rfl (q_id_of rfl) (by decide +kernel) ?_
  show p_Ex c_InA 5 23 4269 mX11_init 55 true (92, [some (.ref (1)), none], [], (c_pt (ci_52 (c_pt (ci_48 (c_pt (ci_44 (c_pt (ci_40 (c_pt (ci_36 (c_pt (ci_20 (c_pt (ci_4 (c_pt (ci_2 w) 11 1 0 2)) 11 1 1 4)) 11 1 2 20)) 11 1 3 36)) 11 1 4 40)) 11 1 5 44)) 11 1 6 48)) 11 1 7 52)) _ _
  have z24 : c_Z 55 (c_pt (ci_52 (c_pt (ci_48 (c_pt (ci_44 (c_pt (ci_40 (c_pt (ci_36 (c_pt (ci_20 (c_pt (ci_4 (c_pt (ci_2 w) 11 1 0 2)) 11 1 1 4)) 11 1 2 20)) 11 1 3 36)) 11 1 4 40)) 11 1 5 44)) 11 1 6 48)) 11 1 7 52) := z23.pt (by decide)
  refine pg_blk [(.aload_n 0, 1, 0, 0)] 93 [some (.ref (1)), none] [.ref (1)] (c_pt (ci_52 (c_pt (ci_48 (c_pt (ci_44 (c_pt (ci_40 (c_pt (ci_36 (c_pt (ci_20 (c_pt (ci_4 (c_pt (ci_2 w) 11 1 0 2)) 11 1 1 4)) 11 1 2 20)) 11 1 3 36)) 11 1 4 40)) 11 1 5 44)) 11 1 6 48)) 11 1 7 52) [] (by decide +kernel) (by refine gt_aload_n (r := 1) rfl ?_; exact gt_z rfl rfl rfl rfl rfl) trivial ?_
  refine p_Ex_new (idx := 53) (a := 22) (b := 4268) (x := 6) (by decide) (by decide) rfl ⟨(z24 56 (by decide)).1, (z24 56 (by decide)).2.2⟩ (by decide +kernel) c_NW11_53 ?_
  have z25 : c_Z 56 (c_pt (ci_52 (c_pt (ci_48 (c_pt (ci_44 (c_pt (ci_40 (c_pt (ci_36 (c_pt (ci_20 (c_pt (ci_4 (c_pt (ci_2 w) 11 1 0 2)) 11 1 1 4)) 11 1 2 20)) 11 1 3 36)) 11 1 4 40)) 11 1 5 44)) 11 1 6 48)) 11 1 7 52) := z24.le (by decide)
  refine pg_blk [(.dup, 1, 0, 0)] 97 [some (.ref (1)), none] [.ref (56), .ref (56), .ref (1)] (c_pt (ci_52 (c_pt (ci_48 (c_pt (ci_44 (c_pt (ci_40 (c_pt (ci_36 (c_pt (ci_20 (c_pt (ci_4 (c_pt (ci_2 w) 11 1 0 2)) 11 1 1 4)) 11 1 2 20)) 11 1 3 36)) 11 1 4 40)) 11 1 5 44)) 11 1 6 48)) 11 1 7 52) [] (by decide +kernel) (by refine gt_dupR ?_; exact gt_z rfl rfl rfl rfl rfl) trivial ?_
  refine p_Ex_callI (idx := 55) (d' := 1) (a' := 1) (b' := 59) (M' := mX6_init) c_IW6 (by decide) (Or.inr (by decide +kernel)) (by decide +kernel) (cv_56 z25) (by decide) (Nat.le_of_ble_eq_true rfl) (by decide) (by decide) (by decide) (fun _ r n' w' h => h.2.1) ?_
  rintro r n' w' ⟨rfl, rfl, rfl⟩
  show p_Ex c_InA 5 21 4209 mX11_init 57 true (100, [some (.ref (1)), none], [.ref (56), .ref (1)], (ci_56 (c_pt (ci_52 (c_pt (ci_48 (c_pt (ci_44 (c_pt (ci_40 (c_pt (ci_36 (c_pt (ci_20 (c_pt (ci_4 (c_pt (ci_2 w) 11 1 0 2)) 11 1 1 4)) 11 1 2 20)) 11 1 3 36)) 11 1 4 40)) 11 1 5 44)) 11 1 6 48)) 11 1 7 52))) _ _
  have z26 : c_Z 57 (ci_56 (c_pt (ci_52 (c_pt (ci_48 (c_pt (ci_44 (c_pt (ci_40 (c_pt (ci_36 (c_pt (ci_20 (c_pt (ci_4 (c_pt (ci_2 w) 11 1 0 2)) 11 1 1 4)) 11 1 2 20)) 11 1 3 36)) 11 1 4 40)) 11 1 5 44)) 11 1 6 48)) 11 1 7 52)) := cz_56 z25
  refine p_Ex_putF (idx := 56) (x := 11) (k := 8) (fun _ _ _ _ _ h => h.1) (by decide) (by decide) (by decide +kernel) rfl rfl rfl (q_id_of rfl) (by decide +kernel) ?_
  show p_Ex c_InA 5 21 4209 mX11_init 57 true (103, [some (.ref (1)), none], [], (c_pt (ci_56 (c_pt (ci_52 (c_pt (ci_48 (c_pt (ci_44 (c_pt (ci_40 (c_pt (ci_36 (c_pt (ci_20 (c_pt (ci_4 (c_pt (ci_2 w) 11 1 0 2)) 11 1 1 4)) 11 1 2 20)) 11 1 3 36)) 11 1 4 40)) 11 1 5 44)) 11 1 6 48)) 11 1 7 52)) 11 1 8 56)) _ _
  have z27 : c_Z 57 (c_pt (ci_56 (c_pt (ci_52 (c_pt (ci_48 (c_pt (ci_44 (c_pt (ci_40 (c_pt (ci_36 (c_pt (ci_20 (c_pt (ci_4 (c_pt (ci_2 w) 11 1 0 2)) 11 1 1 4)) 11 1 2 20)) 11 1 3 36)) 11 1 4 40)) 11 1 5 44)) 11 1 6 48)) 11 1 7 52)) 11 1 8 56) := z26.pt (by decide)
  refine pg_blk [(.aload_n 0, 1, 0, 0)] 104 [some (.ref (1)), none] [.ref (1)] (c_pt (ci_56 (c_pt (ci_52 (c_pt (ci_48 (c_pt (ci_44 (c_pt (ci_40 (c_pt (ci_36 (c_pt (ci_20 (c_pt (ci_4 (c_pt (ci_2 w) 11 1 0 2)) 11 1 1 4)) 11 1 2 20)) 11 1 3 36)) 11 1 4 40)) 11 1 5 44)) 11 1 6 48)) 11 1 7 52)) 11 1 8 56) [] (by decide +kernel) (by refine gt_aload_n (r := 1) rfl ?_; exact gt_z rfl rfl rfl rfl rfl) trivial ?_
  refine p_Ex_new (idx := 60) (a := 20) (b := 4207) (x := 8) (by decide) (by decide) rfl ⟨(z27 58 (by decide)).1, (z27 58 (by decide)).2.2⟩ (by decide +kernel) c_NW11_60 ?_
  have z28 : c_Z 58 (c_pt (ci_56 (c_pt (ci_52 (c_pt (ci_48 (c_pt (ci_44 (c_pt (ci_40 (c_pt (ci_36 (c_pt (ci_20 (c_pt (ci_4 (c_pt (ci_2 w) 11 1 0 2)) 11 1 1 4)) 11 1 2 20)) 11 1 3 36)) 11 1 4 40)) 11 1 5 44)) 11 1 6 48)) 11 1 7 52)) 11 1 8 56) := z27.le (by decide)
  refine pg_blk [(.dup, 1, 0, 0)] 108 [some (.ref (1)), none] [.ref (58), .ref (58), .ref (1)] (c_pt (ci_56 (c_pt (ci_52 (c_pt (ci_48 (c_pt (ci_44 (c_pt (ci_40 (c_pt (ci_36 (c_pt (ci_20 (c_pt (ci_4 (c_pt (ci_2 w) 11 1 0 2)) 11 1 1 4)) 11 1 2 20)) 11 1 3 36)) 11 1 4 40)) 11 1 5 44)) 11 1 6 48)) 11 1 7 52)) 11 1 8 56) [] (by decide +kernel) (by refine gt_dupR ?_; exact gt_z rfl rfl rfl rfl rfl) trivial ?_
  refine p_Ex_callI (idx := 62) (d' := 1) (a' := 1) (b' := 1003) (M' := mX8_init) c_IW8 (by decide) (Or.inr (by decide +kernel)) (by decide +kernel) (cv_58 z28) (by decide) (Nat.le_of_ble_eq_true rfl) (by decide) (by decide) (by decide) (fun _ r n' w' h => h.2.1) ?_
  rintro r n' w' ⟨rfl, rfl, rfl⟩
  show p_Ex c_InA 5 19 3204 mX11_init 59 true (111, [some (.ref (1)), none], [.ref (58), .ref (1)], (ci_58 (c_pt (ci_56 (c_pt (ci_52 (c_pt (ci_48 (c_pt (ci_44 (c_pt (ci_40 (c_pt (ci_36 (c_pt (ci_20 (c_pt (ci_4 (c_pt (ci_2 w) 11 1 0 2)) 11 1 1 4)) 11 1 2 20)) 11 1 3 36)) 11 1 4 40)) 11 1 5 44)) 11 1 6 48)) 11 1 7 52)) 11 1 8 56))) _ _
  have z29 : c_Z 59 (ci_58 (c_pt (ci_56 (c_pt (ci_52 (c_pt (ci_48 (c_pt (ci_44 (c_pt (ci_40 (c_pt (ci_36 (c_pt (ci_20 (c_pt (ci_4 (c_pt (ci_2 w) 11 1 0 2)) 11 1 1 4)) 11 1 2 20)) 11 1 3 36)) 11 1 4 40)) 11 1 5 44)) 11 1 6 48)) 11 1 7 52)) 11 1 8 56)) := cz_58 z28
  refine p_Ex_putF (idx := 63) (x := 11) (k := 9) (fun _ _ _ _ _ h => h.1) (by decide) (by decide) (by decide +kernel) rfl rfl rfl (q_id_of rfl) (by decide +kernel) ?_
  show p_Ex c_InA 5 19 3204 mX11_init 59 true (114, [some (.ref (1)), none], [], (c_pt (ci_58 (c_pt (ci_56 (c_pt (ci_52 (c_pt (ci_48 (c_pt (ci_44 (c_pt (ci_40 (c_pt (ci_36 (c_pt (ci_20 (c_pt (ci_4 (c_pt (ci_2 w) 11 1 0 2)) 11 1 1 4)) 11 1 2 20)) 11 1 3 36)) 11 1 4 40)) 11 1 5 44)) 11 1 6 48)) 11 1 7 52)) 11 1 8 56)) 11 1 9 58)) _ _
  have z30 : c_Z 59 (c_pt (ci_58 (c_pt (ci_56 (c_pt (ci_52 (c_pt (ci_48 (c_pt (ci_44 (c_pt (ci_40 (c_pt (ci_36 (c_pt (ci_20 (c_pt (ci_4 (c_pt (ci_2 w) 11 1 0 2)) 11 1 1 4)) 11 1 2 20)) 11 1 3 36)) 11 1 4 40)) 11 1 5 44)) 11 1 6 48)) 11 1 7 52)) 11 1 8 56)) 11 1 9 58) := z29.pt (by decide)
  refine pg_blk [(.aload_n 0, 1, 0, 0), (.iconst 3, 1, 0, 0)] 116 [some (.ref (1)), none] [.int (3), .ref (1)] (c_pt (ci_58 (c_pt (ci_56 (c_pt (ci_52 (c_pt (ci_48 (c_pt (ci_44 (c_pt (ci_40 (c_pt (ci_36 (c_pt (ci_20 (c_pt (ci_4 (c_pt (ci_2 w) 11 1 0 2)) 11 1 1 4)) 11 1 2 20)) 11 1 3 36)) 11 1 4 40)) 11 1 5 44)) 11 1 6 48)) 11 1 7 52)) 11 1 8 56)) 11 1 9 58) [] (by decide +kernel) (by refine gt_aload_n (r := 1) rfl ?_; refine gt_iconst (v := 3) (by decide) ?_; exact gt_z rfl rfl rfl rfl rfl) trivial ?_
  refine p_Ex_anew (a := 18) (b := 3201) (N := 3) (by decide) (by decide) (by decide) (by decide) rfl ((z30 60 (by decide)).2.2 17) (by decide +kernel) (fun _ _ _ _ _ h => h.2) c_PW ?_
  have z31 : c_Z 60 (c_pt (ci_58 (c_pt (ci_56 (c_pt (ci_52 (c_pt (ci_48 (c_pt (ci_44 (c_pt (ci_40 (c_pt (ci_36 (c_pt (ci_20 (c_pt (ci_4 (c_pt (ci_2 w) 11 1 0 2)) 11 1 1 4)) 11 1 2 20)) 11 1 3 36)) 11 1 4 40)) 11 1 5 44)) 11 1 6 48)) 11 1 7 52)) 11 1 8 56)) 11 1 9 58) := z30.le (by decide)
  refine p_Ex_putF (idx := 67) (x := 11) (k := 10) (fun _ _ _ _ _ h => h.1) (by decide) (by decide) (by decide +kernel) rfl rfl rfl (q_id_of rfl) (by decide +kernel) ?_
  show p_Ex c_InA 5 18 3201 mX11_init 60 true (122, [some (.ref (1)), none], [], (c_pt (c_pt (ci_58 (c_pt (ci_56 (c_pt (ci_52 (c_pt (ci_48 (c_pt (ci_44 (c_pt (ci_40 (c_pt (ci_36 (c_pt (ci_20 (c_pt (ci_4 (c_pt (ci_2 w) 11 1 0 2)) 11 1 1 4)) 11 1 2 20)) 11 1 3 36)) 11 1 4 40)) 11 1 5 44)) 11 1 6 48)) 11 1 7 52)) 11 1 8 56)) 11 1 9 58) 11 1 10 60)) _ _
  have z32 : c_Z 60 (c_pt (c_pt (ci_58 (c_pt (ci_56 (c_pt (ci_52 (c_pt (ci_48 (c_pt (ci_44 (c_pt (ci_40 (c_pt (ci_36 (c_pt (ci_20 (c_pt (ci_4 (c_pt (ci_2 w) 11 1 0 2)) 11 1 1 4)) 11 1 2 20)) 11 1 3 36)) 11 1 4 40)) 11 1 5 44)) 11 1 6 48)) 11 1 7 52)) 11 1 8 56)) 11 1 9 58) 11 1 10 60) := z31.pt (by decide)
  refine pg_blk [(.iconst 0, 1, 0, 0), (.istore_n 1, 1, 0, 0), (.iload_n 1, 1, 0, 0), (.iconst 3, 1, 0, 0)] 126 [some (.ref (1)), some (.int (0))] [.int (3), .int (0)] (c_pt (c_pt (ci_58 (c_pt (ci_56 (c_pt (ci_52 (c_pt (ci_48 (c_pt (ci_44 (c_pt (ci_40 (c_pt (ci_36 (c_pt (ci_20 (c_pt (ci_4 (c_pt (ci_2 w) 11 1 0 2)) 11 1 1 4)) 11 1 2 20)) 11 1 3 36)) 11 1 4 40)) 11 1 5 44)) 11 1 6 48)) 11 1 7 52)) 11 1 8 56)) 11 1 9 58) 11 1 10 60) [] (by decide +kernel) (by refine gt_iconst (v := 0) (by decide) ?_; refine gt_istore_n (L' := [some (.ref (1)), some (.int (0))]) rfl ?_; refine gt_iload_n (x := 0) rfl ?_; refine gt_iconst (v := 3) (by decide) ?_; exact gt_z rfl rfl rfl rfl rfl) trivial ?_
  refine p_Ex_icmp (cd := .ge) (off := 22) 148 (by decide +kernel) (by decide) (fun h9 => ?_) (fun h9 => ?_)
  · exact absurd h9 (show ¬ (3 : Int32) ≤ 0 by decide)
  refine pg_blk [(.aload_n 0, 1, 0, 0), (.getfield 67, 3, 11, 10), (.iload_n 1, 1, 0, 0)] 134 [some (.ref (1)), some (.int (0))] [.int (0), .ref (60)] (c_pt (c_pt (ci_58 (c_pt (ci_56 (c_pt (ci_52 (c_pt (ci_48 (c_pt (ci_44 (c_pt (ci_40 (c_pt (ci_36 (c_pt (ci_20 (c_pt (ci_4 (c_pt (ci_2 w) 11 1 0 2)) 11 1 1 4)) 11 1 2 20)) 11 1 3 36)) 11 1 4 40)) 11 1 5 44)) 11 1 6 48)) 11 1 7 52)) 11 1 8 56)) 11 1 9 58) 11 1 10 60) [q_id 60 11 1] (by decide +kernel) (by refine gt_aload_n (r := 1) rfl ?_; refine gt_getR (r := 60) rfl rfl rfl ?_; refine gt_iload_n (x := 0) rfl ?_; exact gt_z rfl rfl rfl rfl rfl) (q_id_of rfl) ?_
  refine p_Ex_new (idx := 60) (a := 17) (b := 3199) (x := 8) (by decide) (by decide) rfl ⟨(z32 61 (by decide)).1, (z32 61 (by decide)).2.2⟩ (by decide +kernel) c_NW11_60 ?_
  have z33 : c_Z 61 (c_pt (c_pt (ci_58 (c_pt (ci_56 (c_pt (ci_52 (c_pt (ci_48 (c_pt (ci_44 (c_pt (ci_40 (c_pt (ci_36 (c_pt (ci_20 (c_pt (ci_4 (c_pt (ci_2 w) 11 1 0 2)) 11 1 1 4)) 11 1 2 20)) 11 1 3 36)) 11 1 4 40)) 11 1 5 44)) 11 1 6 48)) 11 1 7 52)) 11 1 8 56)) 11 1 9 58) 11 1 10 60) := z32.le (by decide)
  refine pg_blk [(.dup, 1, 0, 0)] 138 [some (.ref (1)), some (.int (0))] [.ref (61), .ref (61), .int (0), .ref (60)] (c_pt (c_pt (ci_58 (c_pt (ci_56 (c_pt (ci_52 (c_pt (ci_48 (c_pt (ci_44 (c_pt (ci_40 (c_pt (ci_36 (c_pt (ci_20 (c_pt (ci_4 (c_pt (ci_2 w) 11 1 0 2)) 11 1 1 4)) 11 1 2 20)) 11 1 3 36)) 11 1 4 40)) 11 1 5 44)) 11 1 6 48)) 11 1 7 52)) 11 1 8 56)) 11 1 9 58) 11 1 10 60) [] (by decide +kernel) (by refine gt_dupR ?_; exact gt_z rfl rfl rfl rfl rfl) trivial ?_
  refine p_Ex_callI (idx := 62) (d' := 1) (a' := 1) (b' := 1003) (M' := mX8_init) c_IW8 (by decide) (Or.inr (by decide +kernel)) (by decide +kernel) (cv_61 z33) (by decide) (Nat.le_of_ble_eq_true rfl) (by decide) (by decide) (by decide) (fun _ r n' w' h => h.2.1) ?_
  rintro r n' w' ⟨rfl, rfl, rfl⟩
  show p_Ex c_InA 5 16 2196 mX11_init 62 true (141, [some (.ref (1)), some (.int (0))], [.ref (61), .int (0), .ref (60)], (ci_61 (c_pt (c_pt (ci_58 (c_pt (ci_56 (c_pt (ci_52 (c_pt (ci_48 (c_pt (ci_44 (c_pt (ci_40 (c_pt (ci_36 (c_pt (ci_20 (c_pt (ci_4 (c_pt (ci_2 w) 11 1 0 2)) 11 1 1 4)) 11 1 2 20)) 11 1 3 36)) 11 1 4 40)) 11 1 5 44)) 11 1 6 48)) 11 1 7 52)) 11 1 8 56)) 11 1 9 58) 11 1 10 60))) _ _
  have z34 : c_Z 62 (ci_61 (c_pt (c_pt (ci_58 (c_pt (ci_56 (c_pt (ci_52 (c_pt (ci_48 (c_pt (ci_44 (c_pt (ci_40 (c_pt (ci_36 (c_pt (ci_20 (c_pt (ci_4 (c_pt (ci_2 w) 11 1 0 2)) 11 1 1 4)) 11 1 2 20)) 11 1 3 36)) 11 1 4 40)) 11 1 5 44)) 11 1 6 48)) 11 1 7 52)) 11 1 8 56)) 11 1 9 58) 11 1 10 60)) := cz_61 z33
  refine p_Ex_aast (q_id_of rfl) (q_id_of rfl) (q_vin rfl) (by decide +kernel) ?_
  show p_Ex c_InA 5 16 2196 mX11_init 62 true (142, [some (.ref (1)), some (.int (0))], [], (c_pt (ci_61 (c_pt (c_pt (ci_58 (c_pt (ci_56 (c_pt (ci_52 (c_pt (ci_48 (c_pt (ci_44 (c_pt (ci_40 (c_pt (ci_36 (c_pt (ci_20 (c_pt (ci_4 (c_pt (ci_2 w) 11 1 0 2)) 11 1 1 4)) 11 1 2 20)) 11 1 3 36)) 11 1 4 40)) 11 1 5 44)) 11 1 6 48)) 11 1 7 52)) 11 1 8 56)) 11 1 9 58) 11 1 10 60)) 17 60 0 61)) _ _
  have z35 : c_Z 62 (c_pt (ci_61 (c_pt (c_pt (ci_58 (c_pt (ci_56 (c_pt (ci_52 (c_pt (ci_48 (c_pt (ci_44 (c_pt (ci_40 (c_pt (ci_36 (c_pt (ci_20 (c_pt (ci_4 (c_pt (ci_2 w) 11 1 0 2)) 11 1 1 4)) 11 1 2 20)) 11 1 3 36)) 11 1 4 40)) 11 1 5 44)) 11 1 6 48)) 11 1 7 52)) 11 1 8 56)) 11 1 9 58) 11 1 10 60)) 17 60 0 61) := z34.pt (by decide)
  refine pg_blk [(.iinc 1 1, 3, 0, 0), (.goto (-21), 3, 124, 0), (.iload_n 1, 1, 0, 0), (.iconst 3, 1, 0, 0)] 126 [some (.ref (1)), some (.int (1))] [.int (3), .int (1)] (c_pt (ci_61 (c_pt (c_pt (ci_58 (c_pt (ci_56 (c_pt (ci_52 (c_pt (ci_48 (c_pt (ci_44 (c_pt (ci_40 (c_pt (ci_36 (c_pt (ci_20 (c_pt (ci_4 (c_pt (ci_2 w) 11 1 0 2)) 11 1 1 4)) 11 1 2 20)) 11 1 3 36)) 11 1 4 40)) 11 1 5 44)) 11 1 6 48)) 11 1 7 52)) 11 1 8 56)) 11 1 9 58) 11 1 10 60)) 17 60 0 61) [] (by decide +kernel) (by refine gt_iinc (x := 0) (v := 1) (L' := [some (.ref (1)), some (.int (1))]) rfl (by decide) rfl ?_; refine gt_goto ?_; refine gt_iload_n (x := 1) rfl ?_; refine gt_iconst (v := 3) (by decide) ?_; exact gt_z rfl rfl rfl rfl rfl) trivial ?_
  refine p_Ex_icmp (cd := .ge) (off := 22) 148 (by decide +kernel) (by decide) (fun h9 => ?_) (fun h9 => ?_)
  · exact absurd h9 (show ¬ (3 : Int32) ≤ 1 by decide)
  refine pg_blk [(.aload_n 0, 1, 0, 0), (.getfield 67, 3, 11, 10), (.iload_n 1, 1, 0, 0)] 134 [some (.ref (1)), some (.int (1))] [.int (1), .ref (60)] (c_pt (ci_61 (c_pt (c_pt (ci_58 (c_pt (ci_56 (c_pt (ci_52 (c_pt (ci_48 (c_pt (ci_44 (c_pt (ci_40 (c_pt (ci_36 (c_pt (ci_20 (c_pt (ci_4 (c_pt (ci_2 w) 11 1 0 2)) 11 1 1 4)) 11 1 2 20)) 11 1 3 36)) 11 1 4 40)) 11 1 5 44)) 11 1 6 48)) 11 1 7 52)) 11 1 8 56)) 11 1 9 58) 11 1 10 60)) 17 60 0 61) [q_id 62 11 1] (by decide +kernel) (by refine gt_aload_n (r := 1) rfl ?_; refine gt_getR (r := 60) rfl rfl rfl ?_; refine gt_iload_n (x := 1) rfl ?_; exact gt_z rfl rfl rfl rfl rfl) (q_id_of rfl) ?_
  refine p_Ex_new (idx := 60) (a := 15) (b := 2194) (x := 8) (by decide) (by decide) rfl ⟨(z35 63 (by decide)).1, (z35 63 (by decide)).2.2⟩ (by decide +kernel) c_NW11_60 ?_
  have z36 : c_Z 63 (c_pt (ci_61 (c_pt (c_pt (ci_58 (c_pt (ci_56 (c_pt (ci_52 (c_pt (ci_48 (c_pt (ci_44 (c_pt (ci_40 (c_pt (ci_36 (c_pt (ci_20 (c_pt (ci_4 (c_pt (ci_2 w) 11 1 0 2)) 11 1 1 4)) 11 1 2 20)) 11 1 3 36)) 11 1 4 40)) 11 1 5 44)) 11 1 6 48)) 11 1 7 52)) 11 1 8 56)) 11 1 9 58) 11 1 10 60)) 17 60 0 61) := z35.le (by decide)
  refine pg_blk [(.dup, 1, 0, 0)] 138 [some (.ref (1)), some (.int (1))] [.ref (63), .ref (63), .int (1), .ref (60)] (c_pt (ci_61 (c_pt (c_pt (ci_58 (c_pt (ci_56 (c_pt (ci_52 (c_pt (ci_48 (c_pt (ci_44 (c_pt (ci_40 (c_pt (ci_36 (c_pt (ci_20 (c_pt (ci_4 (c_pt (ci_2 w) 11 1 0 2)) 11 1 1 4)) 11 1 2 20)) 11 1 3 36)) 11 1 4 40)) 11 1 5 44)) 11 1 6 48)) 11 1 7 52)) 11 1 8 56)) 11 1 9 58) 11 1 10 60)) 17 60 0 61) [] (by decide +kernel) (by refine gt_dupR ?_; exact gt_z rfl rfl rfl rfl rfl) trivial ?_
  refine p_Ex_callI (idx := 62) (d' := 1) (a' := 1) (b' := 1003) (M' := mX8_init) c_IW8 (by decide) (Or.inr (by decide +kernel)) (by decide +kernel) (cv_63 z36) (by decide) (Nat.le_of_ble_eq_true rfl) (by decide) (by decide) (by decide) (fun _ r n' w' h => h.2.1) ?_
  rintro r n' w' ⟨rfl, rfl, rfl⟩
  show p_Ex c_InA 5 14 1191 mX11_init 64 true (141, [some (.ref (1)), some (.int (1))], [.ref (63), .int (1), .ref (60)], (ci_63 (c_pt (ci_61 (c_pt (c_pt (ci_58 (c_pt (ci_56 (c_pt (ci_52 (c_pt (ci_48 (c_pt (ci_44 (c_pt (ci_40 (c_pt (ci_36 (c_pt (ci_20 (c_pt (ci_4 (c_pt (ci_2 w) 11 1 0 2)) 11 1 1 4)) 11 1 2 20)) 11 1 3 36)) 11 1 4 40)) 11 1 5 44)) 11 1 6 48)) 11 1 7 52)) 11 1 8 56)) 11 1 9 58) 11 1 10 60)) 17 60 0 61))) _ _
  have z37 : c_Z 64 (ci_63 (c_pt (ci_61 (c_pt (c_pt (ci_58 (c_pt (ci_56 (c_pt (ci_52 (c_pt (ci_48 (c_pt (ci_44 (c_pt (ci_40 (c_pt (ci_36 (c_pt (ci_20 (c_pt (ci_4 (c_pt (ci_2 w) 11 1 0 2)) 11 1 1 4)) 11 1 2 20)) 11 1 3 36)) 11 1 4 40)) 11 1 5 44)) 11 1 6 48)) 11 1 7 52)) 11 1 8 56)) 11 1 9 58) 11 1 10 60)) 17 60 0 61)) := cz_63 z36
  refine p_Ex_aast (q_id_of rfl) (q_id_of rfl) (q_vin rfl) (by decide +kernel) ?_
  show p_Ex c_InA 5 14 1191 mX11_init 64 true (142, [some (.ref (1)), some (.int (1))], [], (c_pt (ci_63 (c_pt (ci_61 (c_pt (c_pt (ci_58 (c_pt (ci_56 (c_pt (ci_52 (c_pt (ci_48 (c_pt (ci_44 (c_pt (ci_40 (c_pt (ci_36 (c_pt (ci_20 (c_pt (ci_4 (c_pt (ci_2 w) 11 1 0 2)) 11 1 1 4)) 11 1 2 20)) 11 1 3 36)) 11 1 4 40)) 11 1 5 44)) 11 1 6 48)) 11 1 7 52)) 11 1 8 56)) 11 1 9 58) 11 1 10 60)) 17 60 0 61)) 17 60 1 63)) _ _
  have z38 : c_Z 64 (c_pt (ci_63 (c_pt (ci_61 (c_pt (c_pt (ci_58 (c_pt (ci_56 (c_pt (ci_52 (c_pt (ci_48 (c_pt (ci_44 (c_pt (ci_40 (c_pt (ci_36 (c_pt (ci_20 (c_pt (ci_4 (c_pt (ci_2 w) 11 1 0 2)) 11 1 1 4)) 11 1 2 20)) 11 1 3 36)) 11 1 4 40)) 11 1 5 44)) 11 1 6 48)) 11 1 7 52)) 11 1 8 56)) 11 1 9 58) 11 1 10 60)) 17 60 0 61)) 17 60 1 63) := z37.pt (by decide)
  refine pg_blk [(.iinc 1 1, 3, 0, 0), (.goto (-21), 3, 124, 0), (.iload_n 1, 1, 0, 0), (.iconst 3, 1, 0, 0)] 126 [some (.ref (1)), some (.int (2))] [.int (3), .int (2)] (c_pt (ci_63 (c_pt (ci_61 (c_pt (c_pt (ci_58 (c_pt (ci_56 (c_pt (ci_52 (c_pt (ci_48 (c_pt (ci_44 (c_pt (ci_40 (c_pt (ci_36 (c_pt (ci_20 (c_pt (ci_4 (c_pt (ci_2 w) 11 1 0 2)) 11 1 1 4)) 11 1 2 20)) 11 1 3 36)) 11 1 4 40)) 11 1 5 44)) 11 1 6 48)) 11 1 7 52)) 11 1 8 56)) 11 1 9 58) 11 1 10 60)) 17 60 0 61)) 17 60 1 63) [] (by decide +kernel) (by refine gt_iinc (x := 1) (v := 1) (L' := [some (.ref (1)), some (.int (2))]) rfl (by decide) rfl ?_; refine gt_goto ?_; refine gt_iload_n (x := 2) rfl ?_; refine gt_iconst (v := 3) (by decide) ?_; exact gt_z rfl rfl rfl rfl rfl) trivial ?_
  refine p_Ex_icmp (cd := .ge) (off := 22) 148 (by decide +kernel) (by decide) (fun h9 => ?_) (fun h9 => ?_)
  · exact absurd h9 (show ¬ (3 : Int32) ≤ 2 by decide)
  refine pg_blk [(.aload_n 0, 1, 0, 0), (.getfield 67, 3, 11, 10), (.iload_n 1, 1, 0, 0)] 134 [some (.ref (1)), some (.int (2))] [.int (2), .ref (60)] (c_pt (ci_63 (c_pt (ci_61 (c_pt (c_pt (ci_58 (c_pt (ci_56 (c_pt (ci_52 (c_pt (ci_48 (c_pt (ci_44 (c_pt (ci_40 (c_pt (ci_36 (c_pt (ci_20 (c_pt (ci_4 (c_pt (ci_2 w) 11 1 0 2)) 11 1 1 4)) 11 1 2 20)) 11 1 3 36)) 11 1 4 40)) 11 1 5 44)) 11 1 6 48)) 11 1 7 52)) 11 1 8 56)) 11 1 9 58) 11 1 10 60)) 17 60 0 61)) 17 60 1 63) [q_id 64 11 1] (by decide +kernel) (by refine gt_aload_n (r := 1) rfl ?_; refine gt_getR (r := 60) rfl rfl rfl ?_; refine gt_iload_n (x := 2) rfl ?_; exact gt_z rfl rfl rfl rfl rfl) (q_id_of rfl) ?_
  refine p_Ex_new (idx := 60) (a := 13) (b := 1189) (x := 8) (by decide) (by decide) rfl ⟨(z38 65 (by decide)).1, (z38 65 (by decide)).2.2⟩ (by decide +kernel) c_NW11_60 ?_
  have z39 : c_Z 65 (c_pt (ci_63 (c_pt (ci_61 (c_pt (c_pt (ci_58 (c_pt (ci_56 (c_pt (ci_52 (c_pt (ci_48 (c_pt (ci_44 (c_pt (ci_40 (c_pt (ci_36 (c_pt (ci_20 (c_pt (ci_4 (c_pt (ci_2 w) 11 1 0 2)) 11 1 1 4)) 11 1 2 20)) 11 1 3 36)) 11 1 4 40)) 11 1 5 44)) 11 1 6 48)) 11 1 7 52)) 11 1 8 56)) 11 1 9 58) 11 1 10 60)) 17 60 0 61)) 17 60 1 63) := z38.le (by decide)
  refine pg_blk [(.dup, 1, 0, 0)] 138 [some (.ref (1)), some (.int (2))] [.ref (65), .ref (65), .int (2), .ref (60)] (c_pt (ci_63 (c_pt (ci_61 (c_pt (c_pt (ci_58 (c_pt (ci_56 (c_pt (ci_52 (c_pt (ci_48 (c_pt (ci_44 (c_pt (ci_40 (c_pt (ci_36 (c_pt (ci_20 (c_pt (ci_4 (c_pt (ci_2 w) 11 1 0 2)) 11 1 1 4)) 11 1 2 20)) 11 1 3 36)) 11 1 4 40)) 11 1 5 44)) 11 1 6 48)) 11 1 7 52)) 11 1 8 56)) 11 1 9 58) 11 1 10 60)) 17 60 0 61)) 17 60 1 63) [] (by decide +kernel) (by refine gt_dupR ?_; exact gt_z rfl rfl rfl rfl rfl) trivial ?_
  refine p_Ex_callI (idx := 62) (d' := 1) (a' := 1) (b' := 1003) (M' := mX8_init) c_IW8 (by decide) (Or.inr (by decide +kernel)) (by decide +kernel) (cv_65 z39) (by decide) (Nat.le_of_ble_eq_true rfl) (by decide) (by decide) (by decide) (fun _ r n' w' h => h.2.1) ?_
  rintro r n' w' ⟨rfl, rfl, rfl⟩
  show p_Ex c_InA 5 12 186 mX11_init 66 true (141, [some (.ref (1)), some (.int (2))], [.ref (65), .int (2), .ref (60)], (ci_65 (c_pt (ci_63 (c_pt (ci_61 (c_pt (c_pt (ci_58 (c_pt (ci_56 (c_pt (ci_52 (c_pt (ci_48 (c_pt (ci_44 (c_pt (ci_40 (c_pt (ci_36 (c_pt (ci_20 (c_pt (ci_4 (c_pt (ci_2 w) 11 1 0 2)) 11 1 1 4)) 11 1 2 20)) 11 1 3 36)) 11 1 4 40)) 11 1 5 44)) 11 1 6 48)) 11 1 7 52)) 11 1 8 56)) 11 1 9 58) 11 1 10 60)) 17 60 0 61)) 17 60 1 63))) _ _
  have z40 : c_Z 66 (ci_65 (c_pt (ci_63 (c_pt (ci_61 (c_pt (c_pt (ci_58 (c_pt (ci_56 (c_pt (ci_52 (c_pt (ci_48 (c_pt (ci_44 (c_pt (ci_40 (c_pt (ci_36 (c_pt (ci_20 (c_pt (ci_4 (c_pt (ci_2 w) 11 1 0 2)) 11 1 1 4)) 11 1 2 20)) 11 1 3 36)) 11 1 4 40)) 11 1 5 44)) 11 1 6 48)) 11 1 7 52)) 11 1 8 56)) 11 1 9 58) 11 1 10 60)) 17 60 0 61)) 17 60 1 63)) := cz_65 z39
  refine p_Ex_aast (q_id_of rfl) (q_id_of rfl) (q_vin rfl) (by decide +kernel) ?_
  show p_Ex c_InA 5 12 186 mX11_init 66 true (142, [some (.ref (1)), some (.int (2))], [], (c_pt (ci_65 (c_pt (ci_63 (c_pt (ci_61 (c_pt (c_pt (ci_58 (c_pt (ci_56 (c_pt (ci_52 (c_pt (ci_48 (c_pt (ci_44 (c_pt (ci_40 (c_pt (ci_36 (c_pt (ci_20 (c_pt (ci_4 (c_pt (ci_2 w) 11 1 0 2)) 11 1 1 4)) 11 1 2 20)) 11 1 3 36)) 11 1 4 40)) 11 1 5 44)) 11 1 6 48)) 11 1 7 52)) 11 1 8 56)) 11 1 9 58) 11 1 10 60)) 17 60 0 61)) 17 60 1 63)) 17 60 2 65)) _ _
  have z41 : c_Z 66 (c_pt (ci_65 (c_pt (ci_63 (c_pt (ci_61 (c_pt (c_pt (ci_58 (c_pt (ci_56 (c_pt (ci_52 (c_pt (ci_48 (c_pt (ci_44 (c_pt (ci_40 (c_pt (ci_36 (c_pt (ci_20 (c_pt (ci_4 (c_pt (ci_2 w) 11 1 0 2)) 11 1 1 4)) 11 1 2 20)) 11 1 3 36)) 11 1 4 40)) 11 1 5 44)) 11 1 6 48)) 11 1 7 52)) 11 1 8 56)) 11 1 9 58) 11 1 10 60)) 17 60 0 61)) 17 60 1 63)) 17 60 2 65) := z40.pt (by decide)
  refine pg_blk [(.iinc 1 1, 3, 0, 0), (.goto (-21), 3, 124, 0), (.iload_n 1, 1, 0, 0), (.iconst 3, 1, 0, 0)] 126 [some (.ref (1)), some (.int (3))] [.int (3), .int (3)] (c_pt (ci_65 (c_pt (ci_63 (c_pt (ci_61 (c_pt (c_pt (ci_58 (c_pt (ci_56 (c_pt (ci_52 (c_pt (ci_48 (c_pt (ci_44 (c_pt (ci_40 (c_pt (ci_36 (c_pt (ci_20 (c_pt (ci_4 (c_pt (ci_2 w) 11 1 0 2)) 11 1 1 4)) 11 1 2 20)) 11 1 3 36)) 11 1 4 40)) 11 1 5 44)) 11 1 6 48)) 11 1 7 52)) 11 1 8 56)) 11 1 9 58) 11 1 10 60)) 17 60 0 61)) 17 60 1 63)) 17 60 2 65) [] (by decide +kernel) (by refine gt_iinc (x := 2) (v := 1) (L' := [some (.ref (1)), some (.int (3))]) rfl (by decide) rfl ?_; refine gt_goto ?_; refine gt_iload_n (x := 3) rfl ?_; refine gt_iconst (v := 3) (by decide) ?_; exact gt_z rfl rfl rfl rfl rfl) trivial ?_
  refine p_Ex_icmp (cd := .ge) (off := 22) 148 (by decide +kernel) (by decide) (fun h9 => ?_) (fun h9 => ?_)
  rotate_left
  · exact absurd (show (3 : Int32) ≤ 3 by decide) h9
  refine pg_blk [(.aload_n 0, 1, 0, 0)] 149 [some (.ref (1)), some (.int (3))] [.ref (1)] (c_pt (ci_65 (c_pt (ci_63 (c_pt (ci_61 (c_pt (c_pt (ci_58 (c_pt (ci_56 (c_pt (ci_52 (c_pt (ci_48 (c_pt (ci_44 (c_pt (ci_40 (c_pt (ci_36 (c_pt (ci_20 (c_pt (ci_4 (c_pt (ci_2 w) 11 1 0 2)) 11 1 1 4)) 11 1 2 20)) 11 1 3 36)) 11 1 4 40)) 11 1 5 44)) 11 1 6 48)) 11 1 7 52)) 11 1 8 56)) 11 1 9 58) 11 1 10 60)) 17 60 0 61)) 17 60 1 63)) 17 60 2 65) [] (by decide +kernel) (by refine gt_aload_n (r := 1) rfl ?_; exact gt_z rfl rfl rfl rfl rfl) trivial ?_
  refine p_Ex_new (idx := 71) (a := 11) (b := 183) (x := 4) (by decide) (by decide) rfl ⟨(z41 67 (by decide)).1, (z41 67 (by decide)).2.2⟩ (by decide +kernel) c_NW11_71 ?_
  have z42 : c_Z 67 (c_pt (ci_65 (c_pt (ci_63 (c_pt (ci_61 (c_pt (c_pt (ci_58 (c_pt (ci_56 (c_pt (ci_52 (c_pt (ci_48 (c_pt (ci_44 (c_pt (ci_40 (c_pt (ci_36 (c_pt (ci_20 (c_pt (ci_4 (c_pt (ci_2 w) 11 1 0 2)) 11 1 1 4)) 11 1 2 20)) 11 1 3 36)) 11 1 4 40)) 11 1 5 44)) 11 1 6 48)) 11 1 7 52)) 11 1 8 56)) 11 1 9 58) 11 1 10 60)) 17 60 0 61)) 17 60 1 63)) 17 60 2 65) := z41.le (by decide)
  refine pg_blk [(.dup, 1, 0, 0)] 153 [some (.ref (1)), some (.int (3))] [.ref (67), .ref (67), .ref (1)] (c_pt (ci_65 (c_pt (ci_63 (c_pt (ci_61 (c_pt (c_pt (ci_58 (c_pt (ci_56 (c_pt (ci_52 (c_pt (ci_48 (c_pt (ci_44 (c_pt (ci_40 (c_pt (ci_36 (c_pt (ci_20 (c_pt (ci_4 (c_pt (ci_2 w) 11 1 0 2)) 11 1 1 4)) 11 1 2 20)) 11 1 3 36)) 11 1 4 40)) 11 1 5 44)) 11 1 6 48)) 11 1 7 52)) 11 1 8 56)) 11 1 9 58) 11 1 10 60)) 17 60 0 61)) 17 60 1 63)) 17 60 2 65) [] (by decide +kernel) (by refine gt_dupR ?_; exact gt_z rfl rfl rfl rfl rfl) trivial ?_
  refine p_Ex_callI (idx := 73) (d' := 2) (a' := 2) (b' := 60) (M' := mX4_init) c_IW4 (by decide) (Or.inr (by decide +kernel)) (by decide +kernel) (cv_67 z42) (by decide) (Nat.le_of_ble_eq_true rfl) (by decide) (by decide) (by decide) (fun _ r n' w' h => h.2.1) ?_
  rintro r n' w' ⟨rfl, rfl, rfl⟩
  show p_Ex c_InA 5 9 123 mX11_init 69 true (156, [some (.ref (1)), some (.int (3))], [.ref (67), .ref (1)], (ci_67 (c_pt (ci_65 (c_pt (ci_63 (c_pt (ci_61 (c_pt (c_pt (ci_58 (c_pt (ci_56 (c_pt (ci_52 (c_pt (ci_48 (c_pt (ci_44 (c_pt (ci_40 (c_pt (ci_36 (c_pt (ci_20 (c_pt (ci_4 (c_pt (ci_2 w) 11 1 0 2)) 11 1 1 4)) 11 1 2 20)) 11 1 3 36)) 11 1 4 40)) 11 1 5 44)) 11 1 6 48)) 11 1 7 52)) 11 1 8 56)) 11 1 9 58) 11 1 10 60)) 17 60 0 61)) 17 60 1 63)) 17 60 2 65))) _ _
  have z43 : c_Z 69 (ci_67 (c_pt (ci_65 (c_pt (ci_63 (c_pt (ci_61 (c_pt (c_pt (ci_58 (c_pt (ci_56 (c_pt (ci_52 (c_pt (ci_48 (c_pt (ci_44 (c_pt (ci_40 (c_pt (ci_36 (c_pt (ci_20 (c_pt (ci_4 (c_pt (ci_2 w) 11 1 0 2)) 11 1 1 4)) 11 1 2 20)) 11 1 3 36)) 11 1 4 40)) 11 1 5 44)) 11 1 6 48)) 11 1 7 52)) 11 1 8 56)) 11 1 9 58) 11 1 10 60)) 17 60 0 61)) 17 60 1 63)) 17 60 2 65)) := cz_67 z42
  refine p_Ex_putF (idx := 74) (x := 11) (k := 15) (fun _ _ _ _ _ h => h.1) (by decide) (by decide) (by decide +kernel) rfl rfl rfl (q_id_of rfl) (by decide +kernel) ?_
  show p_Ex c_InA 5 9 123 mX11_init 69 true (159, [some (.ref (1)), some (.int (3))], [], (c_pt (ci_67 (c_pt (ci_65 (c_pt (ci_63 (c_pt (ci_61 (c_pt (c_pt (ci_58 (c_pt (ci_56 (c_pt (ci_52 (c_pt (ci_48 (c_pt (ci_44 (c_pt (ci_40 (c_pt (ci_36 (c_pt (ci_20 (c_pt (ci_4 (c_pt (ci_2 w) 11 1 0 2)) 11 1 1 4)) 11 1 2 20)) 11 1 3 36)) 11 1 4 40)) 11 1 5 44)) 11 1 6 48)) 11 1 7 52)) 11 1 8 56)) 11 1 9 58) 11 1 10 60)) 17 60 0 61)) 17 60 1 63)) 17 60 2 65)) 11 1 15 67)) _ _
  have z44 : c_Z 69 (c_pt (ci_67 (c_pt (ci_65 (c_pt (ci_63 (c_pt (ci_61 (c_pt (c_pt (ci_58 (c_pt (ci_56 (c_pt (ci_52 (c_pt (ci_48 (c_pt (ci_44 (c_pt (ci_40 (c_pt (ci_36 (c_pt (ci_20 (c_pt (ci_4 (c_pt (ci_2 w) 11 1 0 2)) 11 1 1 4)) 11 1 2 20)) 11 1 3 36)) 11 1 4 40)) 11 1 5 44)) 11 1 6 48)) 11 1 7 52)) 11 1 8 56)) 11 1 9 58) 11 1 10 60)) 17 60 0 61)) 17 60 1 63)) 17 60 2 65)) 11 1 15 67) := z43.pt (by decide)
  refine pg_blk [(.aload_n 0, 1, 0, 0)] 160 [some (.ref (1)), some (.int (3))] [.ref (1)] (c_pt (ci_67 (c_pt (ci_65 (c_pt (ci_63 (c_pt (ci_61 (c_pt (c_pt (ci_58 (c_pt (ci_56 (c_pt (ci_52 (c_pt (ci_48 (c_pt (ci_44 (c_pt (ci_40 (c_pt (ci_36 (c_pt (ci_20 (c_pt (ci_4 (c_pt (ci_2 w) 11 1 0 2)) 11 1 1 4)) 11 1 2 20)) 11 1 3 36)) 11 1 4 40)) 11 1 5 44)) 11 1 6 48)) 11 1 7 52)) 11 1 8 56)) 11 1 9 58) 11 1 10 60)) 17 60 0 61)) 17 60 1 63)) 17 60 2 65)) 11 1 15 67) [] (by decide +kernel) (by refine gt_aload_n (r := 1) rfl ?_; exact gt_z rfl rfl rfl rfl rfl) trivial ?_
  refine p_Ex_new (idx := 78) (a := 8) (b := 119) (x := 3) (by decide) (by decide) rfl ⟨(z44 70 (by decide)).1, (z44 70 (by decide)).2.2⟩ (by decide +kernel) c_NW11_78 ?_
  have z45 : c_Z 70 (c_pt (ci_67 (c_pt (ci_65 (c_pt (ci_63 (c_pt (ci_61 (c_pt (c_pt (ci_58 (c_pt (ci_56 (c_pt (ci_52 (c_pt (ci_48 (c_pt (ci_44 (c_pt (ci_40 (c_pt (ci_36 (c_pt (ci_20 (c_pt (ci_4 (c_pt (ci_2 w) 11 1 0 2)) 11 1 1 4)) 11 1 2 20)) 11 1 3 36)) 11 1 4 40)) 11 1 5 44)) 11 1 6 48)) 11 1 7 52)) 11 1 8 56)) 11 1 9 58) 11 1 10 60)) 17 60 0 61)) 17 60 1 63)) 17 60 2 65)) 11 1 15 67) := z44.le (by decide)
  refine pg_blk [(.dup, 1, 0, 0)] 164 [some (.ref (1)), some (.int (3))] [.ref (70), .ref (70), .ref (1)] (c_pt (ci_67 (c_pt (ci_65 (c_pt (ci_63 (c_pt (ci_61 (c_pt (c_pt (ci_58 (c_pt (ci_56 (c_pt (ci_52 (c_pt (ci_48 (c_pt (ci_44 (c_pt (ci_40 (c_pt (ci_36 (c_pt (ci_20 (c_pt (ci_4 (c_pt (ci_2 w) 11 1 0 2)) 11 1 1 4)) 11 1 2 20)) 11 1 3 36)) 11 1 4 40)) 11 1 5 44)) 11 1 6 48)) 11 1 7 52)) 11 1 8 56)) 11 1 9 58) 11 1 10 60)) 17 60 0 61)) 17 60 1 63)) 17 60 2 65)) 11 1 15 67) [] (by decide +kernel) (by refine gt_dupR ?_; exact gt_z rfl rfl rfl rfl rfl) trivial ?_
  refine p_Ex_callI (idx := 80) (d' := 1) (a' := 2) (b' := 14) (M' := mX3_init) c_IW3 (by decide) (Or.inr (by decide +kernel)) (by decide +kernel) (cv_70 z45) (by decide) (Nat.le_of_ble_eq_true rfl) (by decide) (by decide) (by decide) (fun _ r n' w' h => h.2.1) ?_
  rintro r n' w' ⟨rfl, rfl, rfl⟩
  show p_Ex c_InA 5 6 105 mX11_init 72 true (167, [some (.ref (1)), some (.int (3))], [.ref (70), .ref (1)], (ci_70 (c_pt (ci_67 (c_pt (ci_65 (c_pt (ci_63 (c_pt (ci_61 (c_pt (c_pt (ci_58 (c_pt (ci_56 (c_pt (ci_52 (c_pt (ci_48 (c_pt (ci_44 (c_pt (ci_40 (c_pt (ci_36 (c_pt (ci_20 (c_pt (ci_4 (c_pt (ci_2 w) 11 1 0 2)) 11 1 1 4)) 11 1 2 20)) 11 1 3 36)) 11 1 4 40)) 11 1 5 44)) 11 1 6 48)) 11 1 7 52)) 11 1 8 56)) 11 1 9 58) 11 1 10 60)) 17 60 0 61)) 17 60 1 63)) 17 60 2 65)) 11 1 15 67))) _ _
  have z46 : c_Z 72 (ci_70 (c_pt (ci_67 (c_pt (ci_65 (c_pt (ci_63 (c_pt (ci_61 (c_pt (c_pt (ci_58 (c_pt (ci_56 (c_pt (ci_52 (c_pt (ci_48 (c_pt (ci_44 (c_pt (ci_40 (c_pt (ci_36 (c_pt (ci_20 (c_pt (ci_4 (c_pt (ci_2 w) 11 1 0 2)) 11 1 1 4)) 11 1 2 20)) 11 1 3 36)) 11 1 4 40)) 11 1 5 44)) 11 1 6 48)) 11 1 7 52)) 11 1 8 56)) 11 1 9 58) 11 1 10 60)) 17 60 0 61)) 17 60 1 63)) 17 60 2 65)) 11 1 15 67)) := cz_70 z45
  refine p_Ex_putF (idx := 81) (x := 11) (k := 16) (fun _ _ _ _ _ h => h.1) (by decide) (by decide) (by decide +kernel) rfl rfl rfl (q_id_of rfl) (by decide +kernel) ?_
  show p_Ex c_InA 5 6 105 mX11_init 72 true (170, [some (.ref (1)), some (.int (3))], [], (c_pt (ci_70 (c_pt (ci_67 (c_pt (ci_65 (c_pt (ci_63 (c_pt (ci_61 (c_pt (c_pt (ci_58 (c_pt (ci_56 (c_pt (ci_52 (c_pt (ci_48 (c_pt (ci_44 (c_pt (ci_40 (c_pt (ci_36 (c_pt (ci_20 (c_pt (ci_4 (c_pt (ci_2 w) 11 1 0 2)) 11 1 1 4)) 11 1 2 20)) 11 1 3 36)) 11 1 4 40)) 11 1 5 44)) 11 1 6 48)) 11 1 7 52)) 11 1 8 56)) 11 1 9 58) 11 1 10 60)) 17 60 0 61)) 17 60 1 63)) 17 60 2 65)) 11 1 15 67)) 11 1 16 70)) _ _
  have z47 : c_Z 72 (c_pt (ci_70 (c_pt (ci_67 (c_pt (ci_65 (c_pt (ci_63 (c_pt (ci_61 (c_pt (c_pt (ci_58 (c_pt (ci_56 (c_pt (ci_52 (c_pt (ci_48 (c_pt (ci_44 (c_pt (ci_40 (c_pt (ci_36 (c_pt (ci_20 (c_pt (ci_4 (c_pt (ci_2 w) 11 1 0 2)) 11 1 1 4)) 11 1 2 20)) 11 1 3 36)) 11 1 4 40)) 11 1 5 44)) 11 1 6 48)) 11 1 7 52)) 11 1 8 56)) 11 1 9 58) 11 1 10 60)) 17 60 0 61)) 17 60 1 63)) 17 60 2 65)) 11 1 15 67)) 11 1 16 70) := z46.pt (by decide)
  refine pg_blk [(.aload_n 0, 1, 0, 0)] 171 [some (.ref (1)), some (.int (3))] [.ref (1)] (c_pt (ci_70 (c_pt (ci_67 (c_pt (ci_65 (c_pt (ci_63 (c_pt (ci_61 (c_pt (c_pt (ci_58 (c_pt (ci_56 (c_pt (ci_52 (c_pt (ci_48 (c_pt (ci_44 (c_pt (ci_40 (c_pt (ci_36 (c_pt (ci_20 (c_pt (ci_4 (c_pt (ci_2 w) 11 1 0 2)) 11 1 1 4)) 11 1 2 20)) 11 1 3 36)) 11 1 4 40)) 11 1 5 44)) 11 1 6 48)) 11 1 7 52)) 11 1 8 56)) 11 1 9 58) 11 1 10 60)) 17 60 0 61)) 17 60 1 63)) 17 60 2 65)) 11 1 15 67)) 11 1 16 70) [] (by decide +kernel) (by refine gt_aload_n (r := 1) rfl ?_; exact gt_z rfl rfl rfl rfl rfl) trivial ?_
  refine p_Ex_new (idx := 85) (a := 5) (b := 101) (x := 7) (by decide) (by decide) rfl ⟨(z47 73 (by decide)).1, (z47 73 (by decide)).2.2⟩ (by decide +kernel) c_NW11_85 ?_
  have z48 : c_Z 73 (c_pt (ci_70 (c_pt (ci_67 (c_pt (ci_65 (c_pt (ci_63 (c_pt (ci_61 (c_pt (c_pt (ci_58 (c_pt (ci_56 (c_pt (ci_52 (c_pt (ci_48 (c_pt (ci_44 (c_pt (ci_40 (c_pt (ci_36 (c_pt (ci_20 (c_pt (ci_4 (c_pt (ci_2 w) 11 1 0 2)) 11 1 1 4)) 11 1 2 20)) 11 1 3 36)) 11 1 4 40)) 11 1 5 44)) 11 1 6 48)) 11 1 7 52)) 11 1 8 56)) 11 1 9 58) 11 1 10 60)) 17 60 0 61)) 17 60 1 63)) 17 60 2 65)) 11 1 15 67)) 11 1 16 70) := z47.le (by decide)
  refine pg_blk [(.dup, 1, 0, 0)] 175 [some (.ref (1)), some (.int (3))] [.ref (73), .ref (73), .ref (1)] (c_pt (ci_70 (c_pt (ci_67 (c_pt (ci_65 (c_pt (ci_63 (c_pt (ci_61 (c_pt (c_pt (ci_58 (c_pt (ci_56 (c_pt (ci_52 (c_pt (ci_48 (c_pt (ci_44 (c_pt (ci_40 (c_pt (ci_36 (c_pt (ci_20 (c_pt (ci_4 (c_pt (ci_2 w) 11 1 0 2)) 11 1 1 4)) 11 1 2 20)) 11 1 3 36)) 11 1 4 40)) 11 1 5 44)) 11 1 6 48)) 11 1 7 52)) 11 1 8 56)) 11 1 9 58) 11 1 10 60)) 17 60 0 61)) 17 60 1 63)) 17 60 2 65)) 11 1 15 67)) 11 1 16 70) [] (by decide +kernel) (by refine gt_dupR ?_; exact gt_z rfl rfl rfl rfl rfl) trivial ?_
  refine p_Ex_callI (idx := 87) (d' := 1) (a' := 3) (b' := 76) (M' := mX7_init) c_IW7 (by decide) (Or.inr (by decide +kernel)) (by decide +kernel) (cv_73 z48) (by decide) (Nat.le_of_ble_eq_true rfl) (by decide) (by decide) (by decide) (fun _ r n' w' h => h.2.1) ?_
  rintro r n' w' ⟨rfl, rfl, rfl⟩
  show p_Ex c_InA 5 2 25 mX11_init 76 true (178, [some (.ref (1)), some (.int (3))], [.ref (73), .ref (1)], (ci_73 (c_pt (ci_70 (c_pt (ci_67 (c_pt (ci_65 (c_pt (ci_63 (c_pt (ci_61 (c_pt (c_pt (ci_58 (c_pt (ci_56 (c_pt (ci_52 (c_pt (ci_48 (c_pt (ci_44 (c_pt (ci_40 (c_pt (ci_36 (c_pt (ci_20 (c_pt (ci_4 (c_pt (ci_2 w) 11 1 0 2)) 11 1 1 4)) 11 1 2 20)) 11 1 3 36)) 11 1 4 40)) 11 1 5 44)) 11 1 6 48)) 11 1 7 52)) 11 1 8 56)) 11 1 9 58) 11 1 10 60)) 17 60 0 61)) 17 60 1 63)) 17 60 2 65)) 11 1 15 67)) 11 1 16 70))) _ _
  have z49 : c_Z 76 (ci_73 (c_pt (ci_70 (c_pt (ci_67 (c_pt (ci_65 (c_pt (ci_63 (c_pt (ci_61 (c_pt (c_pt (ci_58 (c_pt (ci_56 (c_pt (ci_52 (c_pt (ci_48 (c_pt (ci_44 (c_pt (ci_40 (c_pt (ci_36 (c_pt (ci_20 (c_pt (ci_4 (c_pt (ci_2 w) 11 1 0 2)) 11 1 1 4)) 11 1 2 20)) 11 1 3 36)) 11 1 4 40)) 11 1 5 44)) 11 1 6 48)) 11 1 7 52)) 11 1 8 56)) 11 1 9 58) 11 1 10 60)) 17 60 0 61)) 17 60 1 63)) 17 60 2 65)) 11 1 15 67)) 11 1 16 70)) := cz_73 z48
  refine p_Ex_putF (idx := 88) (x := 11) (k := 17) (fun _ _ _ _ _ h => h.1) (by decide) (by decide) (by decide +kernel) rfl rfl rfl (q_id_of rfl) (by decide +kernel) ?_
  show p_Ex c_InA 5 2 25 mX11_init 76 true (181, [some (.ref (1)), some (.int (3))], [], (c_pt (ci_73 (c_pt (ci_70 (c_pt (ci_67 (c_pt (ci_65 (c_pt (ci_63 (c_pt (ci_61 (c_pt (c_pt (ci_58 (c_pt (ci_56 (c_pt (ci_52 (c_pt (ci_48 (c_pt (ci_44 (c_pt (ci_40 (c_pt (ci_36 (c_pt (ci_20 (c_pt (ci_4 (c_pt (ci_2 w) 11 1 0 2)) 11 1 1 4)) 11 1 2 20)) 11 1 3 36)) 11 1 4 40)) 11 1 5 44)) 11 1 6 48)) 11 1 7 52)) 11 1 8 56)) 11 1 9 58) 11 1 10 60)) 17 60 0 61)) 17 60 1 63)) 17 60 2 65)) 11 1 15 67)) 11 1 16 70)) 11 1 17 73)) _ _
  have z50 : c_Z 76 (c_pt (ci_73 (c_pt (ci_70 (c_pt (ci_67 (c_pt (ci_65 (c_pt (ci_63 (c_pt (ci_61 (c_pt (c_pt (ci_58 (c_pt (ci_56 (c_pt (ci_52 (c_pt (ci_48 (c_pt (ci_44 (c_pt (ci_40 (c_pt (ci_36 (c_pt (ci_20 (c_pt (ci_4 (c_pt (ci_2 w) 11 1 0 2)) 11 1 1 4)) 11 1 2 20)) 11 1 3 36)) 11 1 4 40)) 11 1 5 44)) 11 1 6 48)) 11 1 7 52)) 11 1 8 56)) 11 1 9 58) 11 1 10 60)) 17 60 0 61)) 17 60 1 63)) 17 60 2 65)) 11 1 15 67)) 11 1 16 70)) 11 1 17 73) := z49.pt (by decide)
  refine pg_blk [(.aload_n 0, 1, 0, 0)] 182 [some (.ref (1)), some (.int (3))] [.ref (1)] (c_pt (ci_73 (c_pt (ci_70 (c_pt (ci_67 (c_pt (ci_65 (c_pt (ci_63 (c_pt (ci_61 (c_pt (c_pt (ci_58 (c_pt (ci_56 (c_pt (ci_52 (c_pt (ci_48 (c_pt (ci_44 (c_pt (ci_40 (c_pt (ci_36 (c_pt (ci_20 (c_pt (ci_4 (c_pt (ci_2 w) 11 1 0 2)) 11 1 1 4)) 11 1 2 20)) 11 1 3 36)) 11 1 4 40)) 11 1 5 44)) 11 1 6 48)) 11 1 7 52)) 11 1 8 56)) 11 1 9 58) 11 1 10 60)) 17 60 0 61)) 17 60 1 63)) 17 60 2 65)) 11 1 15 67)) 11 1 16 70)) 11 1 17 73) [] (by decide +kernel) (by refine gt_aload_n (r := 1) rfl ?_; exact gt_z rfl rfl rfl rfl rfl) trivial ?_
  refine p_Ex_new (idx := 92) (a := 1) (b := 21) (x := 0) (by decide) (by decide) rfl ⟨(z50 77 (by decide)).1, (z50 77 (by decide)).2.2⟩ (by decide +kernel) c_NW11_92 ?_
  have z51 : c_Z 77 (c_pt (ci_73 (c_pt (ci_70 (c_pt (ci_67 (c_pt (ci_65 (c_pt (ci_63 (c_pt (ci_61 (c_pt (c_pt (ci_58 (c_pt (ci_56 (c_pt (ci_52 (c_pt (ci_48 (c_pt (ci_44 (c_pt (ci_40 (c_pt (ci_36 (c_pt (ci_20 (c_pt (ci_4 (c_pt (ci_2 w) 11 1 0 2)) 11 1 1 4)) 11 1 2 20)) 11 1 3 36)) 11 1 4 40)) 11 1 5 44)) 11 1 6 48)) 11 1 7 52)) 11 1 8 56)) 11 1 9 58) 11 1 10 60)) 17 60 0 61)) 17 60 1 63)) 17 60 2 65)) 11 1 15 67)) 11 1 16 70)) 11 1 17 73) := z50.le (by decide)
  refine pg_blk [(.dup, 1, 0, 0)] 186 [some (.ref (1)), some (.int (3))] [.ref (77), .ref (77), .ref (1)] (c_pt (ci_73 (c_pt (ci_70 (c_pt (ci_67 (c_pt (ci_65 (c_pt (ci_63 (c_pt (ci_61 (c_pt (c_pt (ci_58 (c_pt (ci_56 (c_pt (ci_52 (c_pt (ci_48 (c_pt (ci_44 (c_pt (ci_40 (c_pt (ci_36 (c_pt (ci_20 (c_pt (ci_4 (c_pt (ci_2 w) 11 1 0 2)) 11 1 1 4)) 11 1 2 20)) 11 1 3 36)) 11 1 4 40)) 11 1 5 44)) 11 1 6 48)) 11 1 7 52)) 11 1 8 56)) 11 1 9 58) 11 1 10 60)) 17 60 0 61)) 17 60 1 63)) 17 60 2 65)) 11 1 15 67)) 11 1 16 70)) 11 1 17 73) [] (by decide +kernel) (by refine gt_dupR ?_; exact gt_z rfl rfl rfl rfl rfl) trivial ?_
  refine p_Ex_callI (idx := 94) (d' := 1) (a' := 1) (b' := 21) (M' := mX0_init) c_IW0 (by decide) (Or.inr (by decide +kernel)) (by decide +kernel) (cv_77 z51) (by decide) (Nat.le_of_ble_eq_true rfl) (by decide) (by decide) (by decide) (fun _ r n' w' h => h.2.1) ?_
  rintro r n' w' ⟨rfl, rfl, rfl⟩
  show p_Ex c_InA 5 0 0 mX11_init 78 true (189, [some (.ref (1)), some (.int (3))], [.ref (77), .ref (1)], (ci_77 (c_pt (ci_73 (c_pt (ci_70 (c_pt (ci_67 (c_pt (ci_65 (c_pt (ci_63 (c_pt (ci_61 (c_pt (c_pt (ci_58 (c_pt (ci_56 (c_pt (ci_52 (c_pt (ci_48 (c_pt (ci_44 (c_pt (ci_40 (c_pt (ci_36 (c_pt (ci_20 (c_pt (ci_4 (c_pt (ci_2 w) 11 1 0 2)) 11 1 1 4)) 11 1 2 20)) 11 1 3 36)) 11 1 4 40)) 11 1 5 44)) 11 1 6 48)) 11 1 7 52)) 11 1 8 56)) 11 1 9 58) 11 1 10 60)) 17 60 0 61)) 17 60 1 63)) 17 60 2 65)) 11 1 15 67)) 11 1 16 70)) 11 1 17 73))) _ _
  have z52 : c_Z 78 (ci_77 (c_pt (ci_73 (c_pt (ci_70 (c_pt (ci_67 (c_pt (ci_65 (c_pt (ci_63 (c_pt (ci_61 (c_pt (c_pt (ci_58 (c_pt (ci_56 (c_pt (ci_52 (c_pt (ci_48 (c_pt (ci_44 (c_pt (ci_40 (c_pt (ci_36 (c_pt (ci_20 (c_pt (ci_4 (c_pt (ci_2 w) 11 1 0 2)) 11 1 1 4)) 11 1 2 20)) 11 1 3 36)) 11 1 4 40)) 11 1 5 44)) 11 1 6 48)) 11 1 7 52)) 11 1 8 56)) 11 1 9 58) 11 1 10 60)) 17 60 0 61)) 17 60 1 63)) 17 60 2 65)) 11 1 15 67)) 11 1 16 70)) 11 1 17 73)) := cz_77 z51
  refine p_Ex_putF (idx := 95) (x := 11) (k := 18) (fun _ _ _ _ _ h => h.1) (by decide) (by decide) (by decide +kernel) rfl rfl rfl (q_id_of rfl) (by decide +kernel) ?_
  show p_Ex c_InA 5 0 0 mX11_init 78 true (192, [some (.ref (1)), some (.int (3))], [], (c_pt (ci_77 (c_pt (ci_73 (c_pt (ci_70 (c_pt (ci_67 (c_pt (ci_65 (c_pt (ci_63 (c_pt (ci_61 (c_pt (c_pt (ci_58 (c_pt (ci_56 (c_pt (ci_52 (c_pt (ci_48 (c_pt (ci_44 (c_pt (ci_40 (c_pt (ci_36 (c_pt (ci_20 (c_pt (ci_4 (c_pt (ci_2 w) 11 1 0 2)) 11 1 1 4)) 11 1 2 20)) 11 1 3 36)) 11 1 4 40)) 11 1 5 44)) 11 1 6 48)) 11 1 7 52)) 11 1 8 56)) 11 1 9 58) 11 1 10 60)) 17 60 0 61)) 17 60 1 63)) 17 60 2 65)) 11 1 15 67)) 11 1 16 70)) 11 1 17 73)) 11 1 18 77)) _ _
  have z53 : c_Z 78 (c_pt (ci_77 (c_pt (ci_73 (c_pt (ci_70 (c_pt (ci_67 (c_pt (ci_65 (c_pt (ci_63 (c_pt (ci_61 (c_pt (c_pt (ci_58 (c_pt (ci_56 (c_pt (ci_52 (c_pt (ci_48 (c_pt (ci_44 (c_pt (ci_40 (c_pt (ci_36 (c_pt (ci_20 (c_pt (ci_4 (c_pt (ci_2 w) 11 1 0 2)) 11 1 1 4)) 11 1 2 20)) 11 1 3 36)) 11 1 4 40)) 11 1 5 44)) 11 1 6 48)) 11 1 7 52)) 11 1 8 56)) 11 1 9 58) 11 1 10 60)) 17 60 0 61)) 17 60 1 63)) 17 60 2 65)) 11 1 15 67)) 11 1 16 70)) 11 1 17 73)) 11 1 18 77) := z52.pt (by decide)
  exact p_Ex_ret none (by decide +kernel) rfl ⟨rfl, rfl, rfl⟩
theorem n_down {P : Nat → Prop} {n : Nat} (h0 : P n) (hs : ∀ i, i < n → P (i + 1) → P i) : ∀ i, i ≤ n → P i := by
  intro i hi
  obtain ⟨j, hj⟩ : ∃ j, i + j = n := ⟨n - i, by omega⟩
  induction j generalizing i with
  | zero => rw [show i = n by omega]; exact h0
  | succ j ih => exact hs i (by omega) (ih (i + 1) (by omega) (by omega))
def c_OK (w : q_Mem) : Prop := (∀ i j, 80 ≤ i → w.1 i j = 0) ∧ (∀ j, j ≠ 8 → w.1 79 j = 0) ∧ w.2.2 12 79 10 = 82 ∧ w.2.2 12 79 11 = 83 ∧ w.2.2 12 79 12 = 84 ∧ w.2.2 12 79 13 = 85 ∧ w.2.2 12 79 14 = 86 ∧ w.2.2 12 79 15 = 87 ∧ w.2.2 12 79 16 = 88 ∧ w.2.2 12 79 17 = 89 ∧ w.2.2 12 79 18 = 90 ∧ w.2.2 12 79 19 = 91 ∧ w.2.2 12 79 20 = 92 ∧ w.2.2 12 79 21 = 93 ∧ w.2.2 12 79 22 = 94 ∧ w.2.2 12 79 23 = 95 ∧ w.2.2 12 79 50 = 104
theorem c_clears {d : Nat} {w : q_Mem} (h : c_OK w) : g_Ev 115 true (d + 1) mX12_clears w [.ref 79] (g_V fun u => u = w) := by
  have q79 : q_id 115 12 79 := q_id_of rfl
  have e : ∀ k, k ≠ 8 → g_wI w 79 k 0 = w := fun k hk => g_same (h.2.1 k hk)
  have L3 : ∀ i, i ≤ 36 → g_Ex 115 true (d + 1) mX12_clears 68 [some (.ref 79), some (.int (nI i))] [] w (g_V fun u => u = w) := by
    refine n_down ?_ (fun i hi ih => ?_)
    · apply gxX12_clears_68; unfold gvX12_clears_68
      exact ⟨fun _ => ⟨rfl, rfl⟩, fun h9 => absurd (show nI 36 ≤ nI 36 from nI_le (Nat.le_refl _) (by omega)) h9⟩
    · apply gxX12_clears_68; unfold gvX12_clears_68
      refine ⟨fun h9 => absurd (show nI 36 ≤ nI i from h9) (nI_ge (by omega) (by omega)), fun _ => ⟨q79, h.2.2.2.2.2.2.2.2.1, q_id_of rfl, vp_in_nI (by omega) (by decide), ?_⟩⟩
      intro w1 h1
      rw [nI_clamp (by omega), g_same (h.1 88 i (by decide))] at h1
      subst h1
      rw [nI_1]
      exact ih
  have L2 : ∀ i, i ≤ 4 → g_Ex 115 true (d + 1) mX12_clears 48 [some (.ref 79), some (.int (nI i))] [] w (g_V fun u => u = w) := by
    refine n_down ?_ (fun i hi ih => ?_)
    · apply gxX12_clears_48; unfold gvX12_clears_48
      exact ⟨fun _ => L3 0 (by omega), fun h9 => absurd (show nI 4 ≤ nI 4 from nI_le (Nat.le_refl _) (by omega)) h9⟩
    · apply gxX12_clears_48; unfold gvX12_clears_48
      refine ⟨fun h9 => absurd (show nI 4 ≤ nI i from h9) (nI_ge (by omega) (by omega)), fun _ => ⟨q79, h.2.2.2.2.2.2.1, q_id_of rfl, vp_in_nI (by omega) (by decide), ?_⟩⟩
      intro w1 h1
      rw [nI_clamp (by omega), g_same (h.1 86 i (by decide))] at h1
      subst h1
      rw [nI_1]
      exact ih
  have L1 : ∀ i, i ≤ 20 → g_Ex 115 true (d + 1) mX12_clears 27 [some (.ref 79), some (.int (nI i))] [] w (g_V fun u => u = w) := by
    refine n_down ?_ (fun i hi ih => ?_)
    · apply gxX12_clears_27; unfold gvX12_clears_27
      exact ⟨fun _ => L2 0 (by omega), fun h9 => absurd (show nI 20 ≤ nI 20 from nI_le (Nat.le_refl _) (by omega)) h9⟩
    · apply gxX12_clears_27; unfold gvX12_clears_27
      refine ⟨fun h9 => absurd (show nI 20 ≤ nI i from h9) (nI_ge (by omega) (by omega)), fun _ => ⟨q79, h.2.2.2.2.2.1, q_id_of rfl, vp_in_nI (by omega) (by decide), ?_⟩⟩
      intro w1 h1
      rw [nI_clamp (by omega), g_same (h.1 85 i (by decide))] at h1
      subst h1
      rw [nI_1]
      exact ih
  apply geX12_clears
  unfold gvX12_clears_0
  refine ⟨q79, ?_⟩; intro w1 h1; rw [e 24 (by decide)] at h1; subst h1
  refine ⟨q79, ?_⟩; intro w1 h1; rw [e 25 (by decide)] at h1; subst h1
  refine ⟨q79, ?_⟩; intro w1 h1; rw [e 26 (by decide)] at h1; subst h1
  refine ⟨q79, ?_⟩; intro w1 h1; rw [e 27 (by decide)] at h1; subst h1
  refine ⟨q79, ?_⟩; intro w1 h1; rw [e 28 (by decide)] at h1; subst h1
  exact L1 0 (by omega)
theorem c_copies {d r1 r2 n : Nat} {w : q_Mem} (h : c_OK w) (h1 : 80 ≤ r1) (h2 : 80 ≤ r2) (i1 : q_id 115 14 r1) (i2 : q_id 115 14 r2) (s1 : (q_sh r1).2 = n) (s2 : (q_sh r2).2 = n) (hn : n ≤ 4000) : g_Ev 115 true (d + 1) mX12_copies w [.ref 79, .ref r1, .ref r2, .int (nI n)] (g_V fun u => u = w) := by
  have L1 : ∀ i, i ≤ n → g_Ex 115 true (d + 1) mX12_copies 3 [none, some (.ref r1), some (.ref r2), some (.int (nI n)), some (.int (nI i))] [] w (g_V fun u => u = w) := by
    refine n_down ?_ (fun i hi ih => ?_)
    · apply gxX12_copies_3; unfold gvX12_copies_3
      exact ⟨fun _ => ⟨rfl, rfl⟩, fun h9 => absurd (nI_le (Nat.le_refl _) (by omega)) h9⟩
    · apply gxX12_copies_3; unfold gvX12_copies_3
      refine ⟨fun h9 => absurd h9 (nI_ge (by omega) (by omega)), fun _ => ⟨i1, ?_, i2, ?_, ?_⟩⟩
      · rw [s1]; exact vp_in_nI (by omega) (by omega)
      · rw [s2]; exact vp_in_nI (by omega) (by omega)
      intro w1 h3
      rw [nI_clamp (by omega), g_same (by rw [h.1 r1 i h1, h.1 r2 i h2])] at h3
      subst h3
      rw [nI_1]
      exact ih
  apply geX12_copies
  unfold gvX12_copies_0
  exact L1 0 (by omega)
theorem c_sets {d : Nat} {w : q_Mem} (h : c_OK w) : g_Ev 115 true (d + 2) mX12_sets w [.ref 79] (g_V fun u => u = w) := by
  have q79 : q_id 115 12 79 := q_id_of rfl
  have e : ∀ k, k ≠ 8 → g_wI w 79 k 0 = w := fun k hk => g_same (h.2.1 k hk)
  have L3 : ∀ i, i ≤ 4 → g_Ex 115 true (d + 2) mX12_sets 236 [some (.ref 79), some (.int (nI i))] [] w (g_V fun u => u = w) := by
    refine n_down ?_ (fun i hi ih => ?_)
    · apply gxX12_sets_236; unfold gvX12_sets_236
      exact ⟨fun _ => ⟨rfl, rfl⟩, fun h9 => absurd (show nI 4 ≤ nI 4 from nI_le (Nat.le_refl _) (by omega)) h9⟩
    · apply gxX12_sets_236; unfold gvX12_sets_236
      refine ⟨fun h9 => absurd (show nI 4 ≤ nI i from h9) (nI_ge (by omega) (by omega)), fun _ => ⟨q79, h.2.2.2.2.2.2.2.2.2.2.2.2.2.2.2.2, q79, ?_⟩⟩
      apply geX12_lightOf
      unfold gvX12_lightOf_0
      refine ⟨q79, fun h9 => absurd (h.2.1 31 (by decide)) h9, fun _ => ⟨0, rfl, q_id_of rfl, ?_, ?_⟩⟩
      · rw [show (50 : Int32) = nI 50 from rfl, nI_add]; exact vp_in_nI (by omega) (by decide)
      intro w1 h1
      rw [show (50 : Int32) = nI 50 from rfl, nI_add, nI_clamp (by omega), g_same (h.1 104 _ (by decide))] at h1
      subst h1
      rw [nI_1]
      exact ih
  have L2 : g_Ex 115 true (d + 2) mX12_sets 185 [some (.ref 79), some (.int 0)] [] w (g_V fun u => u = w) := by
    apply gxX12_sets_185; unfold gvX12_sets_185
    rw [h.2.1 30 (by decide)]
    exact ⟨q79, fun _ => L3 0 (by omega), fun h9 => absurd (show (0 : Int32) ≤ 0 by decide) h9⟩
  have L1 : ∀ i, i ≤ 63 → g_Ex 115 true (d + 2) mX12_sets 164 [some (.ref 79), some (.int (nI i))] [] w (g_V fun u => u = w) := by
    refine n_down ?_ (fun i hi ih => ?_)
    · apply gxX12_sets_164; unfold gvX12_sets_164
      exact ⟨fun _ => L2, fun h9 => absurd (show nI 63 ≤ nI 63 from nI_le (Nat.le_refl _) (by omega)) h9⟩
    · apply gxX12_sets_164; unfold gvX12_sets_164
      refine ⟨fun h9 => absurd (show nI 63 ≤ nI i from h9) (nI_ge (by omega) (by omega)), fun _ => ⟨q79, h.2.2.2.2.2.2.2.2.2.2.2.2.2.2.2.2, q_id_of rfl, vp_in_nI (by omega) (by decide), ?_⟩⟩
      intro w1 h1
      rw [nI_clamp (by omega), g_same (h.1 104 i (by decide))] at h1
      subst h1
      rw [nI_1]
      exact ih
  apply geX12_sets
  unfold gvX12_sets_0
  refine ⟨q79, q79, ?_⟩; intro w1 h1; rw [h.2.1 24 (by decide), e 29 (by decide)] at h1; subst h1
  refine ⟨q79, q79, ?_⟩; intro w1 h1; rw [h.2.1 25 (by decide), e 30 (by decide)] at h1; subst h1
  refine ⟨q79, q79, ?_⟩; intro w1 h1; rw [h.2.1 26 (by decide), e 31 (by decide)] at h1; subst h1
  refine ⟨q79, q79, ?_⟩; intro w1 h1; rw [h.2.1 27 (by decide), e 32 (by decide)] at h1; subst h1
  refine ⟨q79, q79, ?_⟩; intro w1 h1; rw [h.2.1 28 (by decide), e 33 (by decide)] at h1; subst h1
  refine ⟨q79, h.2.2.1, q79, h.2.2.2.2.2.2.2.2.2.1, q79, g_mono (c_copies (n := 12) h (by decide) (by decide) (q_id_of rfl) (q_id_of rfl) rfl rfl (by decide)) (g_V_of (fun u hu => ⟨rfl, ?_⟩))⟩; subst hu
  refine ⟨q79, h.2.2.2.1, q79, h.2.2.2.2.2.2.2.2.2.2.1, q79, g_mono (c_copies (n := 50) h (by decide) (by decide) (q_id_of rfl) (q_id_of rfl) rfl rfl (by decide)) (g_V_of (fun u hu => ⟨rfl, ?_⟩))⟩; subst hu
  refine ⟨q79, h.2.2.2.2.1, q79, h.2.2.2.2.2.2.2.2.2.2.2.1, q79, g_mono (c_copies (n := 48) h (by decide) (by decide) (q_id_of rfl) (q_id_of rfl) rfl rfl (by decide)) (g_V_of (fun u hu => ⟨rfl, ?_⟩))⟩; subst hu
  refine ⟨q79, h.2.2.2.2.2.1, q79, h.2.2.2.2.2.2.2.2.2.2.2.2.1, q79, g_mono (c_copies (n := 20) h (by decide) (by decide) (q_id_of rfl) (q_id_of rfl) rfl rfl (by decide)) (g_V_of (fun u hu => ⟨rfl, ?_⟩))⟩; subst hu
  refine ⟨q79, h.2.2.2.2.2.2.1, q79, h.2.2.2.2.2.2.2.2.2.2.2.2.2.1, q79, g_mono (c_copies (n := 4) h (by decide) (by decide) (q_id_of rfl) (q_id_of rfl) rfl rfl (by decide)) (g_V_of (fun u hu => ⟨rfl, ?_⟩))⟩; subst hu
  refine ⟨q79, h.2.2.2.2.2.2.2.1, q79, h.2.2.2.2.2.2.2.2.2.2.2.2.2.2.1, q79, g_mono (c_copies (n := 18) h (by decide) (by decide) (q_id_of rfl) (q_id_of rfl) rfl rfl (by decide)) (g_V_of (fun u hu => ⟨rfl, ?_⟩))⟩; subst hu
  refine ⟨q79, h.2.2.2.2.2.2.2.2.1, q79, h.2.2.2.2.2.2.2.2.2.2.2.2.2.2.2.1, q79, g_mono (c_copies (n := 36) h (by decide) (by decide) (q_id_of rfl) (q_id_of rfl) rfl rfl (by decide)) (g_V_of (fun u hu => ⟨rfl, ?_⟩))⟩; subst hu
  refine ⟨q79, ?_⟩; intro w1 h1; rw [e 40 (by decide)] at h1; subst h1
  refine ⟨q79, ?_⟩; intro w1 h1; rw [e 55 (by decide)] at h1; subst h1
  refine ⟨q79, ?_⟩; intro w1 h1; rw [e 45 (by decide)] at h1; subst h1
  refine ⟨q79, ?_⟩; intro w1 h1; rw [e 66 (by decide)] at h1; subst h1
  refine ⟨q79, ?_⟩; intro w1 h1; rw [e 46 (by decide)] at h1; subst h1
  exact L1 0 (by omega)
def c_Zx (w : q_Mem) : Prop := ∀ j, w.1 79 j = 0
