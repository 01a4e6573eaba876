def ps_Ex (Φ : p_Cc) (d a : Nat) (M : q_Mt) (pc : Nat) (L : List (Option Value)) (st : List Value) (w : q_Sm) (Q : s_Po) (X : s_Xo) : Prop := p_Ex Φ d a (6 * a) M 116 false (pc, L, st, q_mm w) (s_Q Q) (s_X X)
def ps_EvW (d a : Nat) (M : q_Mt) (hh : List (Nat × Nat × Nat × Nat)) (w : q_Sm) (As : List Value) (Q : s_Po) : Prop := p_EvW d a (6 * a) M hh 116 false (q_mm w) As (s_Q Q)
theorem ps_blk {Φ : p_Cc} {d a : Nat} {M : q_Mt} {pc : Nat} {L : List (Option Value)} {st : List Value} {w : q_Sm} {Q : s_Po} {X : s_Xo} (is : List q_RI) (pc' : Nat) (L' : List (Option Value)) (st' : List Value) (w' : q_Sm) (ps : List Prop) (hr : q_chk M.1 M.2.2.2.1 M.2.2.1 pc is = true) (he : q_tn is pc L st w [] ((pc', L', st', q_mm w'), ps)) (hP : q_all ps) (k : ps_Ex Φ d a M pc' L' st' w' Q X) : ps_Ex Φ d a M pc L st w Q X := by
  unfold q_tn q_rn at he
  rw [List.nil_append] at he
  exact p_Ex_blk is (pc', L', st', q_mm w') ps hr he hP k
theorem ps_ret {Φ : p_Cc} {d a : Nat} {M : q_Mt} {pc : Nat} {L : List (Option Value)} {w : q_Sm} {Q : s_Po} {X : s_Xo} (r : Option Value) (hd : decode M.2.2.1 pc = .ok (q_rins r, 1)) (hn : q_nar M.2.2.2.2 r) (hQ : Q r w) : ps_Ex Φ d a M pc L r.toList w Q X := p_Ex_ret r hd hn ⟨rfl, w, rfl, hQ⟩
theorem ps_retI {Φ : p_Cc} {d a : Nat} {M : q_Mt} {pc : Nat} {L : List (Option Value)} {w : q_Sm} {Q : s_Po} {X : s_Xo} {v : Int32} (ty : FieldType) (hd : decode M.2.2.1 pc = .ok (.ireturn, 1)) (h1 : M.2.2.2.2 = some ty) (h2 : narrow ty (.int v) = .int v) (hQ : Q (some (.int v)) w) : ps_Ex Φ d a M pc L [.int v] w Q X := ps_ret (some (.int v)) hd ⟨ty, h1, h2⟩ hQ
theorem ps_retJ {Φ : p_Cc} {d a : Nat} {M : q_Mt} {pc : Nat} {L : List (Option Value)} {w : q_Sm} {Q : s_Po} {X : s_Xo} {v : Int64} (hd : decode M.2.2.1 pc = .ok (.lreturn, 1)) (h1 : M.2.2.2.2 = some .long) (hQ : Q (some (.long v)) w) : ps_Ex Φ d a M pc L [.long v] w Q X := ps_ret (some (.long v)) hd h1 hQ
theorem ps_retV {Φ : p_Cc} {d a : Nat} {M : q_Mt} {pc : Nat} {L : List (Option Value)} {w : q_Sm} {Q : s_Po} {X : s_Xo} (hd : decode M.2.2.1 pc = .ok (.return_, 1)) (h1 : M.2.2.2.2 = none) (hQ : Q none w) : ps_Ex Φ d a M pc L [] w Q X := ps_ret none hd h1 hQ
theorem ps_icmp {Φ : p_Cc} {d a : Nat} {M : q_Mt} {pc : Nat} {L : List (Option Value)} {st : List Value} {x y : Int32} {w : q_Sm} {Q : s_Po} {X : s_Xo} {cd : ClassFile.Cond} {off : Int} (tgt : Nat) (hd : decode M.2.2.1 pc = .ok (.if_icmp cd off, 3)) (ht : (pc : Int) + off = (tgt : Int))
    (k1 : q_cnd cd x y → ps_Ex Φ d a M tgt L st w Q X) (k2 : ¬ q_cnd cd x y → ps_Ex Φ d a M (pc + 3) L st w Q X) : ps_Ex Φ d a M pc L (.int y :: .int x :: st) w Q X := p_Ex_icmp tgt hd ht k1 k2
theorem ps_if {Φ : p_Cc} {d a : Nat} {M : q_Mt} {pc : Nat} {L : List (Option Value)} {st : List Value} {x : Int32} {w : q_Sm} {Q : s_Po} {X : s_Xo} {cd : ClassFile.Cond} {off : Int} (tgt : Nat) (hd : decode M.2.2.1 pc = .ok (.ifCond cd off, 3)) (ht : (pc : Int) + off = (tgt : Int))
    (k1 : q_cnd cd x 0 → ps_Ex Φ d a M tgt L st w Q X) (k2 : ¬ q_cnd cd x 0 → ps_Ex Φ d a M (pc + 3) L st w Q X) : ps_Ex Φ d a M pc L (.int x :: st) w Q X := p_Ex_if tgt hd ht k1 k2
theorem ps_tsw {Φ : p_Cc} {d a : Nat} {M : q_Mt} {pc : Nat} {L : List (Option Value)} {st : List Value} {x : Int32} {w : q_Sm} {Q : s_Po} {X : s_Xo} {dflt lo hi : Int} {offs : Array Int} {len : Nat} (tg : Nat) (ts : List Nat) (hd : decode M.2.2.1 pc = .ok (.tableswitch dflt lo hi offs, len)) (h1 : (pc : Int) + dflt = (tg : Int)) (h2 : offs.toList = ts.map (fun (q : Nat) => (q : Int) - (pc : Int))) (h3 : hi = lo + ts.length - 1)
    (k1 : (x.toInt < lo ∨ hi < x.toInt) → ps_Ex Φ d a M tg L st w Q X) (k2 : ∀ (j q : Nat), ts[j]? = some q → x.toInt = lo + j → ps_Ex Φ d a M q L st w Q X) : ps_Ex Φ d a M pc L (.int x :: st) w Q X := by
  intro G p l e R s m args below meth c Z hΦ C g1 g2 g3 g4 H locs cells slots ls f1 f0 f2 f3 f4 f5
  obtain ⟨hexec, hb, -⟩ := id C
  by_cases hx : x.toInt < lo ∨ hi < x.toInt
  · exact lv_tableOut hexec hb hd hx h1 (k1 hx G p l e R s m args below meth c Z hΦ C g1 g2 g3 g4 H locs cells slots ls f1 f0 f2 f3 f4 f5)
  · have hlt : (x.toInt - lo).toNat < ts.length := by omega
    have hq : ts[(x.toInt - lo).toNat]? = some (ts[(x.toInt - lo).toNat]) := List.getElem?_eq_getElem hlt
    have ho : offs[(x.toInt - lo).toNat]? = some ((ts[(x.toInt - lo).toNat] : Int) - (pc : Int)) := by
      rw [← Array.getElem?_toList, h2, List.getElem?_map, hq]
      rfl
    exact lv_tableIn hexec hb hd (fun h => hx (Or.inl h)) (fun h => hx (Or.inr h)) ho (by omega) (k2 _ _ hq (by omega) G p l e R s m args below meth c Z hΦ C g1 g2 g3 g4 H locs cells slots ls f1 f0 f2 f3 f4 f5)
section PSC
variable {Φ : p_Cc} {d a a' k idx x id pc : Nat} {M M' : q_Mt} {L : List (Option Value)} {st As : List Value} {w : q_Sm} {Q Q1 : s_Po} {X X1 : s_Xo}
theorem ps_callV (hm : q_mokV M' x k) (hl : Cond.methodLink (q_own M.1) idx M'.2.1 ∈ q_TB) (hdec : decode M.2.2.1 pc = .ok (.invokevirtual idx, 3)) (hid : q_id 116 x id) (hlen : As.length = k) (hst : (st.map fun v => v.category).sum ≤ 8)
    (E : s_Ev d a' M' w (.ref id :: As) (fun r u => ps_Ex Φ (d + 1) a M (pc + 3) L (r.toList ++ st) u Q X) X) : ps_Ex Φ (d + 1) (a + a') M pc L (As.reverse ++ .ref id :: st) w Q X := by
  refine p_Ex_callV (b' := 6 * a') hm hl hdec E hid hlen hst (Nat.le_refl _) (by omega) (by omega) (fun h => by cases h) ?_ (fun E n' w' h => h)
  rintro r n' w' ⟨rfl, u, rfl, h⟩
  have e1 : a + a' - a' = a := by omega
  have e2 : 6 * (a + a') - 6 * a' = 6 * a := by omega
  rw [e1, e2]
  exact h
theorem ps_callS (hm : q_mokS M' k) (hl : Cond.methodLink (q_own M.1) idx M'.2.1 ∈ q_TB) (hdec : decode M.2.2.1 pc = .ok (.invokestatic idx, 3)) (hlen : As.length = k) (hst : (st.map fun v => v.category).sum ≤ 8)
    (E : s_Ev d a' M' w As (fun r u => ps_Ex Φ (d + 1) a M (pc + 3) L (r.toList ++ st) u Q X) X) : ps_Ex Φ (d + 1) (a + a') M pc L (As.reverse ++ st) w Q X := by
  refine p_Ex_callS (b' := 6 * a') hm (by decide) hl hdec E hlen hst (Nat.le_refl _) (by omega) (by omega) (fun h => by cases h) ?_ (fun E n' w' h => h)
  rintro r n' w' ⟨rfl, u, rfl, h⟩
  have e1 : a + a' - a' = a := by omega
  have e2 : 6 * (a + a') - 6 * a' = 6 * a := by omega
  rw [e1, e2]
  exact h
theorem ps_callC (hm : q_mokV M' x k) (hl : Cond.methodLink (q_own M.1) idx M'.2.1 ∈ q_TB) (hdec : decode M.2.2.1 pc = .ok (.invokevirtual idx, 3)) (hid : q_id 116 x id) (hlen : As.length = k) (hst : (st.map fun v => v.category).sum ≤ 8)
    (E : s_Ev d a' M' w (.ref id :: As) (fun r u => ps_Ex Φ (d + 1) a M (pc + 3) L (r.toList ++ st) u Q X) (fun E u => p_Han Φ M pc E (fun hp => ps_Ex Φ (d + 1) a M hp.1 (p_fg L hp.2) [] u Q X))) : ps_Ex Φ (d + 1) (a + a') M pc L (As.reverse ++ .ref id :: st) w Q X := by
  have e1 : a + a' - a' = a := by omega
  have e2 : 6 * (a + a') - 6 * a' = 6 * a := by omega
  refine p_Ex_callC (b' := 6 * a') hm hl hdec E hid hlen hst (Nat.le_refl _) (by omega) (by omega) rfl ?_ ?_
  · rintro r n' w' ⟨rfl, u, rfl, h⟩
    rw [e1, e2]
    exact h
  · rintro E n' w' ⟨rfl, u, rfl, h⟩
    rw [e1, e2]
    exact h
theorem ps_callW {hh : List (Nat × Nat × Nat × Nat)} (hm : p_mokW M' hh k) (hl : Cond.methodLink (q_own M.1) idx M'.2.1 ∈ q_TB) (hdec : decode M.2.2.1 pc = .ok (.invokestatic idx, 3)) (hΨ : ∀ G s m args c, Φ G s m args c → p_Nc s) (hlen : As.length = k) (hst : (st.map fun v => v.category).sum ≤ 8)
    (E : ps_EvW d a' M' hh w As (fun r u => ps_Ex Φ (d + 1) a M (pc + 3) L (r.toList ++ st) u Q X)) : ps_Ex Φ (d + 1) (a + a') M pc L (As.reverse ++ st) w Q X := by
  refine p_Ex_callW (b' := 6 * a') hm (by decide) hl hdec hΨ E hlen hst (Nat.le_refl _) (by omega) (by omega) (fun h => by cases h) ?_
  rintro r n' w' ⟨rfl, u, rfl, h⟩
  have e1 : a + a' - a' = a := by omega
  have e2 : 6 * (a + a') - 6 * a' = 6 * a := by omega
  rw [e1, e2]
  exact h
end PSC
theorem ps_evW {d a : Nat} {M : q_Mt} {hh : List (Nat × Nat × Nat × Nat)} {w : q_Sm} {As : List Value} {Q : s_Po} (hy : plainName M.2.1.cls = true) (hown : M.2.1.cls = q_own M.1) (hlen : (q_ent As).length ≤ M.2.2.2.1) (hin : Cond.codeWith M.2.1 M.2.2.1 M.2.2.2.1 M.2.2.2.2 hh ∈ q_TB)
    (h : ps_Ex (p_CW hh) d a M 0 (q_entry As M.2.2.2.1) [] w Q (fun _ _ => False)) : ps_EvW d a M hh w As Q := p_evW hy hown hlen hin (p_Ex_mono h (fun _ _ _ h => h) (fun E n' w' h => by obtain ⟨-, u, -, h⟩ := h; exact h))
theorem ps_monoW {d a : Nat} {M : q_Mt} {hh : List (Nat × Nat × Nat × Nat)} {w : q_Sm} {As : List Value} {Q Q1 : s_Po} (h : ps_EvW d a M hh w As Q1) (hQ : ∀ r u, Q1 r u → Q r u) : ps_EvW d a M hh w As Q := by
  intro l G hl
  refine MetFree.mono (h l G hl) (fun _ _ hp => hp) (fun _ _ _ _ _ hk => hk) (fun a' s o s' _ hq => ?_)
  rcases hq with ⟨⟨⟨r, n', w', h1, ⟨h2, u, h3, h4⟩, h5⟩, h6⟩, h7⟩ | ⟨q, h1, E, ce, L, ⟨⟨n', w', h2, h3⟩, h4⟩, h5⟩
  · exact Or.inl ⟨⟨⟨r, n', w', h1, ⟨h2, u, h3, hQ _ _ h4⟩, h5⟩, h6⟩, h7⟩
  · exact h2.elim
theorem ps_slen {Φ : p_Cc} {d a N pc : Nat} {xs : Nat → Int32} {M : q_Mt} {L : List (Option Value)} {st : List Value} {w : q_Sm} {Q : s_Po} {X : s_Xo} (hΦ0 : ∀ G s m args c, Φ G s m args c → p_Sc N xs G s m args c) (hd : decode M.2.2.1 pc = .ok (.arraylength, 1))
    (k : ps_Ex Φ d a M (pc + 1) L (.int (Int32.ofNat N) :: st) w Q X) : ps_Ex Φ d a M pc L (.retAddr 999 :: st) w Q X := p_Ex_slen hΦ0 hd k
theorem ps_sld {Φ : p_Cc} {d a N pc : Nat} {xs : Nat → Int32} {M : q_Mt} {L : List (Option Value)} {st : List Value} {w : q_Sm} {Q : s_Po} {X : s_Xo} {i : Int32} (hΦ0 : ∀ G s m args c, Φ G s m args c → p_Sc N xs G s m args c) (hd : decode M.2.2.1 pc = .ok (.iaload, 1)) (hi : vp_in i N)
    (k : ps_Ex Φ d a M (pc + 1) L (.int (xs i.toNatClampNeg) :: st) w Q X) : ps_Ex Φ d a M pc L (.int i :: .retAddr 999 :: st) w Q X := p_Ex_sld hΦ0 hd hi k
abbrev mL_coast : q_Mt := (13, yL_coast, method_3_code, 4, some .int)
def hL_coast : List (Nat × Nat × Nat × Nat) := [(0, 9, 12, 13)]
abbrev mL_law : q_Mt := (13, yL_law, method_4_code, 4, some .int)
def hL_law : List (Nat × Nat × Nat × Nat) := [(0, 9, 12, 13)]
abbrev mL_work : q_Mt := (13, yL_work, method_5_code, 4, some .int)
def hL_work : List (Nat × Nat × Nat × Nat) := [(0, 9, 12, 13)]
abbrev mL_book : q_Mt := (13, yL_book, method_6_code, 4, some .int)
def hL_book : List (Nat × Nat × Nat × Nat) := [(0, 9, 12, 13)]
abbrev mL_told : q_Mt := (13, yL_told, method_7_code, 4, some .int)
def hL_told : List (Nat × Nat × Nat × Nat) := [(0, 9, 12, 13)]
abbrev mL_creditor : q_Mt := (13, yL_creditor, method_8_code, 5, some .int)
def hL_creditor : List (Nat × Nat × Nat × Nat) := [(0, 10, 13, 31), (0, 10, 17, 13)]
abbrev mL_debt : q_Mt := (13, yL_debt, method_9_code, 5, some .int)
def hL_debt : List (Nat × Nat × Nat × Nat) := [(0, 10, 13, 31), (0, 10, 17, 13)]
abbrev mL_light : q_Mt := (13, yL_light, method_10_code, 5, some .int)
def hL_light : List (Nat × Nat × Nat × Nat) := [(0, 10, 13, 13)]
abbrev mL_dusk : q_Mt := (13, yL_dusk, method_11_code, 5, some .int)
def hL_dusk : List (Nat × Nat × Nat × Nat) := [(0, 10, 13, 13)]
abbrev mL_would : q_Mt := (13, yL_would, method_12_code, 7, some .int)
def hL_would : List (Nat × Nat × Nat × Nat) := [(0, 14, 17, 13)]
abbrev mL_grows : q_Mt := (13, yL_grows, method_13_code, 4, some .int)
def hL_grows : List (Nat × Nat × Nat × Nat) := [(0, 9, 12, 31)]
abbrev mL_best : q_Mt := (13, yL_best, method_14_code, 4, some .int)
def hL_best : List (Nat × Nat × Nat × Nat) := [(0, 9, 12, 13)]
abbrev mL_left : q_Mt := (13, yL_left, method_15_code, 4, some .int)
def hL_left : List (Nat × Nat × Nat × Nat) := [(0, 9, 12, 13)]
abbrev mL_delay : q_Mt := (13, yL_delay, method_16_code, 5, some .int)
def hL_delay : List (Nat × Nat × Nat × Nat) := [(0, 10, 13, 31), (0, 10, 17, 13)]
abbrev mL_weds : q_Mt := (13, yL_weds, method_17_code, 4, some .int)
def hL_weds : List (Nat × Nat × Nat × Nat) := [(0, 9, 12, 31)]
abbrev mL_choices : q_Mt := (13, yL_choices, method_18_code, 4, some .int)
def hL_choices : List (Nat × Nat × Nat × Nat) := [(0, 9, 12, 31)]
abbrev mL_sees : q_Mt := (13, yL_sees, method_19_code, 4, some .int)
def hL_sees : List (Nat × Nat × Nat × Nat) := [(0, 16, 19, 31)]
abbrev mL_eyes : q_Mt := (13, yL_eyes, method_20_code, 4, some .int)
def hL_eyes : List (Nat × Nat × Nat × Nat) := [(0, 9, 12, 13)]
abbrev mL_chairs : q_Mt := (13, yL_chairs, method_21_code, 5, some .int)
def hL_chairs : List (Nat × Nat × Nat × Nat) := [(0, 10, 13, 13)]
abbrev mL_gets : q_Mt := (13, yL_gets, method_22_code, 7, some .int)
def hL_gets : List (Nat × Nat × Nat × Nat) := [(0, 14, 17, 31), (0, 14, 21, 13)]
abbrev mL_owes : q_Mt := (13, yL_owes, method_23_code, 5, some .int)
def hL_owes : List (Nat × Nat × Nat × Nat) := [(0, 10, 13, 31)]
abbrev mL_net : q_Mt := (13, yL_net, method_24_code, 4, some .int)
def hL_net : List (Nat × Nat × Nat × Nat) := [(0, 9, 12, 31)]
abbrev mL_struck : q_Mt := (13, yL_struck, method_25_code, 4, some .int)
def hL_struck : List (Nat × Nat × Nat × Nat) := [(0, 9, 12, 13)]
abbrev mL_look : q_Mt := (13, yL_look, method_26_code, 4, some .int)
def hL_look : List (Nat × Nat × Nat × Nat) := [(0, 9, 12, 13)]
abbrev mL_settle : q_Mt := (13, yL_settle, method_27_code, 8, some .int)
def hL_settle : List (Nat × Nat × Nat × Nat) := [(0, 15, 18, 13)]
abbrev mL_now : q_Mt := (13, yL_now, method_28_code, 7, some .int)
def hL_now : List (Nat × Nat × Nat × Nat) := [(0, 21, 24, 13)]
abbrev mL_bids : q_Mt := (13, yL_bids, method_29_code, 7, some .int)
def hL_bids : List (Nat × Nat × Nat × Nat) := [(0, 14, 17, 13)]
abbrev mL_has : q_Mt := (13, yL_has, method_30_code, 7, some .int)
def hL_has : List (Nat × Nat × Nat × Nat) := [(0, 14, 17, 13)]
abbrev mL_decade : q_Mt := (13, yL_decade, method_31_code, 6, some .int)
def hL_decade : List (Nat × Nat × Nat × Nat) := [(0, 12, 15, 13)]
abbrev mL_span : q_Mt := (13, yL_span, method_32_code, 7, some .int)
def hL_span : List (Nat × Nat × Nat × Nat) := [(0, 14, 17, 13)]
abbrev mL_brightest : q_Mt := (13, yL_brightest, method_33_code, 4, some .int)
def hL_brightest : List (Nat × Nat × Nat × Nat) := [(0, 9, 12, 13)]
def p_WM : List (q_Mt × List (Nat × Nat × Nat × Nat) × Nat) := [(mL_coast, hL_coast, 3), (mL_law, hL_law, 3), (mL_work, hL_work, 3), (mL_book, hL_book, 3), (mL_told, hL_told, 3), (mL_creditor, hL_creditor, 4), (mL_debt, hL_debt, 4), (mL_light, hL_light, 4), (mL_dusk, hL_dusk, 4), (mL_would, hL_would, 6), (mL_grows, hL_grows, 3), (mL_best, hL_best, 3), (mL_left, hL_left, 3), (mL_delay, hL_delay, 4), (mL_weds, hL_weds, 3), (mL_choices, hL_choices, 3), (mL_sees, hL_sees, 3), (mL_eyes, hL_eyes, 3), (mL_chairs, hL_chairs, 4), (mL_gets, hL_gets, 6), (mL_owes, hL_owes, 4), (mL_net, hL_net, 3), (mL_struck, hL_struck, 3), (mL_look, hL_look, 3), (mL_settle, hL_settle, 7), (mL_now, hL_now, 6), (mL_bids, hL_bids, 6), (mL_has, hL_has, 6), (mL_decade, hL_decade, 5), (mL_span, hL_span, 6), (mL_brightest, hL_brightest, 3)]
set_option maxRecDepth 100000 in
theorem p_WMw : ∀ w ∈ p_WM.flatMap (fun e => [Cond.static e.1.2.1, Cond.initialized e.1.2.1.cls]), w ∈ q_TB := q_inTB [709, 118, 1022, 118, 1081, 118, 1148, 118, 1171, 118, 1191, 118, 1226, 118, 1244, 118, 1265, 118, 1276, 118, 1284, 118, 1295, 118, 1314, 118, 1325, 118, 1340, 118, 1351, 118, 1360, 118, 1371, 118, 1378, 118, 1398, 118, 1415, 118, 1426, 118, 1438, 118, 1455, 118, 1482, 118, 1504, 118, 1511, 118, 1534, 118, 1541, 118, 1566, 118, 1574, 118] (by decide +kernel) (by decide +kernel)
set_option maxRecDepth 100000 in
theorem p_WMx : ∀ e ∈ p_WM, (e.1.2.1.cls ≠ "java/lang/invoke/MethodHandle" ∧ e.1.2.1.cls ≠ "java/lang/invoke/VarHandle" ∧ (parseMethodDescriptor e.1.2.1.desc).map (fun d => d.parameters.length) = some e.2.2) ∧ e.1.2.2.2.1 + 19 ≤ 64 := by decide +kernel
theorem p_mkW {M : q_Mt} {hh : List (Nat × Nat × Nat × Nat)} {k : Nat} (hc : Cond.codeWith M.2.1 M.2.2.1 M.2.2.2.1 M.2.2.2.2 hh ∈ q_TB) (i : Nat) (h : p_WM[i]? = some (M, hh, k)) : p_mokW M hh k := by
  have hm := List.mem_of_getElem? h
  obtain ⟨h1, h2⟩ := p_WMx _ hm
  refine ⟨fun w h9 => ?_, h1, h2⟩
  rcases List.mem_append.mp (show w ∈ [Cond.static M.2.1, Cond.initialized M.2.1.cls] ++ [Cond.codeWith M.2.1 M.2.2.1 M.2.2.2.1 M.2.2.2.2 hh] from h9) with h9 | h9
  · exact p_WMw w (List.mem_flatMap.mpr ⟨_, hm, h9⟩)
  · rw [List.mem_singleton.mp h9]; exact hc
theorem cL_coast_in : Cond.codeWith mL_coast.2.1 mL_coast.2.2.1 mL_coast.2.2.2.1 mL_coast.2.2.2.2 hL_coast ∈ q_TB := q_tb3 (List.mem_of_getElem? (i := 112) rfl) rfl
theorem kL_coast : p_mokW mL_coast hL_coast 3 := p_mkW cL_coast_in 0 rfl
theorem cL_law_in : Cond.codeWith mL_law.2.1 mL_law.2.2.1 mL_law.2.2.2.1 mL_law.2.2.2.2 hL_law ∈ q_TB := q_tb4 (List.mem_of_getElem? (i := 185) rfl) rfl
theorem kL_law : p_mokW mL_law hL_law 3 := p_mkW cL_law_in 1 rfl
theorem cL_work_in : Cond.codeWith mL_work.2.1 mL_work.2.2.1 mL_work.2.2.2.1 mL_work.2.2.2.2 hL_work ∈ q_TB := q_tb5 (List.mem_of_getElem? (i := 4) rfl) rfl
theorem kL_work : p_mokW mL_work hL_work 3 := p_mkW cL_work_in 2 rfl
theorem cL_book_in : Cond.codeWith mL_book.2.1 mL_book.2.2.1 mL_book.2.2.2.1 mL_book.2.2.2.2 hL_book ∈ q_TB := q_tb5 (List.mem_of_getElem? (i := 71) rfl) rfl
theorem kL_book : p_mokW mL_book hL_book 3 := p_mkW cL_book_in 3 rfl
theorem cL_told_in : Cond.codeWith mL_told.2.1 mL_told.2.2.1 mL_told.2.2.2.1 mL_told.2.2.2.2 hL_told ∈ q_TB := q_tb5 (List.mem_of_getElem? (i := 94) rfl) rfl
theorem kL_told : p_mokW mL_told hL_told 3 := p_mkW cL_told_in 4 rfl
theorem cL_creditor_in : Cond.codeWith mL_creditor.2.1 mL_creditor.2.2.1 mL_creditor.2.2.2.1 mL_creditor.2.2.2.2 hL_creditor ∈ q_TB := q_tb5 (List.mem_of_getElem? (i := 114) rfl) rfl
theorem kL_creditor : p_mokW mL_creditor hL_creditor 4 := p_mkW cL_creditor_in 5 rfl
theorem cL_debt_in : Cond.codeWith mL_debt.2.1 mL_debt.2.2.1 mL_debt.2.2.2.1 mL_debt.2.2.2.2 hL_debt ∈ q_TB := q_tb5 (List.mem_of_getElem? (i := 149) rfl) rfl
theorem kL_debt : p_mokW mL_debt hL_debt 4 := p_mkW cL_debt_in 6 rfl
theorem cL_light_in : Cond.codeWith mL_light.2.1 mL_light.2.2.1 mL_light.2.2.2.1 mL_light.2.2.2.2 hL_light ∈ q_TB := q_tb5 (List.mem_of_getElem? (i := 167) rfl) rfl
theorem kL_light : p_mokW mL_light hL_light 4 := p_mkW cL_light_in 7 rfl
theorem cL_dusk_in : Cond.codeWith mL_dusk.2.1 mL_dusk.2.2.1 mL_dusk.2.2.2.1 mL_dusk.2.2.2.2 hL_dusk ∈ q_TB := q_tb5 (List.mem_of_getElem? (i := 188) rfl) rfl
theorem kL_dusk : p_mokW mL_dusk hL_dusk 4 := p_mkW cL_dusk_in 8 rfl
theorem cL_would_in : Cond.codeWith mL_would.2.1 mL_would.2.2.1 mL_would.2.2.2.1 mL_would.2.2.2.2 hL_would ∈ q_TB := q_tb5 (List.mem_of_getElem? (i := 199) rfl) rfl
theorem kL_would : p_mokW mL_would hL_would 6 := p_mkW cL_would_in 9 rfl
theorem cL_grows_in : Cond.codeWith mL_grows.2.1 mL_grows.2.2.1 mL_grows.2.2.2.1 mL_grows.2.2.2.2 hL_grows ∈ q_TB := q_tb5 (List.mem_of_getElem? (i := 207) rfl) rfl
theorem kL_grows : p_mokW mL_grows hL_grows 3 := p_mkW cL_grows_in 10 rfl
theorem cL_best_in : Cond.codeWith mL_best.2.1 mL_best.2.2.1 mL_best.2.2.2.1 mL_best.2.2.2.2 hL_best ∈ q_TB := q_tb5 (List.mem_of_getElem? (i := 218) rfl) rfl
theorem kL_best : p_mokW mL_best hL_best 3 := p_mkW cL_best_in 11 rfl
theorem cL_left_in : Cond.codeWith mL_left.2.1 mL_left.2.2.1 mL_left.2.2.2.1 mL_left.2.2.2.2 hL_left ∈ q_TB := q_tb5 (List.mem_of_getElem? (i := 237) rfl) rfl
theorem kL_left : p_mokW mL_left hL_left 3 := p_mkW cL_left_in 12 rfl
theorem cL_delay_in : Cond.codeWith mL_delay.2.1 mL_delay.2.2.1 mL_delay.2.2.2.1 mL_delay.2.2.2.2 hL_delay ∈ q_TB := q_tb6 (List.mem_of_getElem? (i := 8) rfl) rfl
theorem kL_delay : p_mokW mL_delay hL_delay 4 := p_mkW cL_delay_in 13 rfl
theorem cL_weds_in : Cond.codeWith mL_weds.2.1 mL_weds.2.2.1 mL_weds.2.2.2.1 mL_weds.2.2.2.2 hL_weds ∈ q_TB := q_tb6 (List.mem_of_getElem? (i := 23) rfl) rfl
theorem kL_weds : p_mokW mL_weds hL_weds 3 := p_mkW cL_weds_in 14 rfl
theorem cL_choices_in : Cond.codeWith mL_choices.2.1 mL_choices.2.2.1 mL_choices.2.2.2.1 mL_choices.2.2.2.2 hL_choices ∈ q_TB := q_tb6 (List.mem_of_getElem? (i := 34) rfl) rfl
theorem kL_choices : p_mokW mL_choices hL_choices 3 := p_mkW cL_choices_in 15 rfl
theorem cL_sees_in : Cond.codeWith mL_sees.2.1 mL_sees.2.2.1 mL_sees.2.2.2.1 mL_sees.2.2.2.2 hL_sees ∈ q_TB := q_tb6 (List.mem_of_getElem? (i := 43) rfl) rfl
theorem kL_sees : p_mokW mL_sees hL_sees 3 := p_mkW cL_sees_in 16 rfl
theorem cL_eyes_in : Cond.codeWith mL_eyes.2.1 mL_eyes.2.2.1 mL_eyes.2.2.2.1 mL_eyes.2.2.2.2 hL_eyes ∈ q_TB := q_tb6 (List.mem_of_getElem? (i := 54) rfl) rfl
theorem kL_eyes : p_mokW mL_eyes hL_eyes 3 := p_mkW cL_eyes_in 17 rfl
theorem cL_chairs_in : Cond.codeWith mL_chairs.2.1 mL_chairs.2.2.1 mL_chairs.2.2.2.1 mL_chairs.2.2.2.2 hL_chairs ∈ q_TB := q_tb6 (List.mem_of_getElem? (i := 61) rfl) rfl
theorem kL_chairs : p_mokW mL_chairs hL_chairs 4 := p_mkW cL_chairs_in 18 rfl
theorem cL_gets_in : Cond.codeWith mL_gets.2.1 mL_gets.2.2.1 mL_gets.2.2.2.1 mL_gets.2.2.2.2 hL_gets ∈ q_TB := q_tb6 (List.mem_of_getElem? (i := 81) rfl) rfl
theorem kL_gets : p_mokW mL_gets hL_gets 6 := p_mkW cL_gets_in 19 rfl
theorem cL_owes_in : Cond.codeWith mL_owes.2.1 mL_owes.2.2.1 mL_owes.2.2.2.1 mL_owes.2.2.2.2 hL_owes ∈ q_TB := q_tb6 (List.mem_of_getElem? (i := 98) rfl) rfl
theorem kL_owes : p_mokW mL_owes hL_owes 4 := p_mkW cL_owes_in 20 rfl
theorem cL_net_in : Cond.codeWith mL_net.2.1 mL_net.2.2.1 mL_net.2.2.2.1 mL_net.2.2.2.2 hL_net ∈ q_TB := q_tb6 (List.mem_of_getElem? (i := 109) rfl) rfl
theorem kL_net : p_mokW mL_net hL_net 3 := p_mkW cL_net_in 21 rfl
theorem cL_struck_in : Cond.codeWith mL_struck.2.1 mL_struck.2.2.1 mL_struck.2.2.2.1 mL_struck.2.2.2.2 hL_struck ∈ q_TB := q_tb6 (List.mem_of_getElem? (i := 121) rfl) rfl
theorem kL_struck : p_mokW mL_struck hL_struck 3 := p_mkW cL_struck_in 22 rfl
theorem cL_look_in : Cond.codeWith mL_look.2.1 mL_look.2.2.1 mL_look.2.2.2.1 mL_look.2.2.2.2 hL_look ∈ q_TB := q_tb6 (List.mem_of_getElem? (i := 138) rfl) rfl
theorem kL_look : p_mokW mL_look hL_look 3 := p_mkW cL_look_in 23 rfl
theorem cL_settle_in : Cond.codeWith mL_settle.2.1 mL_settle.2.2.1 mL_settle.2.2.2.1 mL_settle.2.2.2.2 hL_settle ∈ q_TB := q_tb6 (List.mem_of_getElem? (i := 165) rfl) rfl
theorem kL_settle : p_mokW mL_settle hL_settle 7 := p_mkW cL_settle_in 24 rfl
theorem cL_now_in : Cond.codeWith mL_now.2.1 mL_now.2.2.1 mL_now.2.2.2.1 mL_now.2.2.2.2 hL_now ∈ q_TB := q_tb6 (List.mem_of_getElem? (i := 187) rfl) rfl
theorem kL_now : p_mokW mL_now hL_now 6 := p_mkW cL_now_in 25 rfl
theorem cL_bids_in : Cond.codeWith mL_bids.2.1 mL_bids.2.2.1 mL_bids.2.2.2.1 mL_bids.2.2.2.2 hL_bids ∈ q_TB := q_tb6 (List.mem_of_getElem? (i := 194) rfl) rfl
theorem kL_bids : p_mokW mL_bids hL_bids 6 := p_mkW cL_bids_in 26 rfl
theorem cL_has_in : Cond.codeWith mL_has.2.1 mL_has.2.2.1 mL_has.2.2.2.1 mL_has.2.2.2.2 hL_has ∈ q_TB := q_tb6 (List.mem_of_getElem? (i := 217) rfl) rfl
theorem kL_has : p_mokW mL_has hL_has 6 := p_mkW cL_has_in 27 rfl
theorem cL_decade_in : Cond.codeWith mL_decade.2.1 mL_decade.2.2.1 mL_decade.2.2.2.1 mL_decade.2.2.2.2 hL_decade ∈ q_TB := q_tb6 (List.mem_of_getElem? (i := 224) rfl) rfl
theorem kL_decade : p_mokW mL_decade hL_decade 5 := p_mkW cL_decade_in 28 rfl
theorem cL_span_in : Cond.codeWith mL_span.2.1 mL_span.2.2.1 mL_span.2.2.2.1 mL_span.2.2.2.2 hL_span ∈ q_TB := q_tb7 (List.mem_of_getElem? (i := 9) rfl) rfl
theorem kL_span : p_mokW mL_span hL_span 6 := p_mkW cL_span_in 29 rfl
theorem cL_brightest_in : Cond.codeWith mL_brightest.2.1 mL_brightest.2.2.1 mL_brightest.2.2.2.1 mL_brightest.2.2.2.2 hL_brightest ∈ q_TB := q_tb7 (List.mem_of_getElem? (i := 17) rfl) rfl
theorem kL_brightest : p_mokW mL_brightest hL_brightest 3 := p_mkW cL_brightest_in 30 rfl
def p_LK : List (Nat × MethodName) := [(122, yL_coast), (132, yL_law), (135, yL_work), (138, yL_book), (149, yL_told), (152, yL_creditor), (156, yL_debt), (159, yL_light), (162, yL_dusk), (165, yL_would), (169, yL_grows), (172, yL_best), (179, yL_left), (182, yL_delay), (193, yL_weds), (196, yL_choices), (199, yL_sees), (202, yL_eyes), (205, yL_chairs), (208, yL_gets), (211, yL_owes), (214, yL_net), (217, yL_struck), (224, yL_look), (227, yL_settle), (231, yL_now), (234, yL_bids), (237, yL_has), (240, yL_decade), (244, yL_span), (251, yL_brightest)]
set_option maxRecDepth 100000 in
theorem p_LKw : ∀ w ∈ p_LK.map (fun e => Cond.methodLink (q_own 13) e.1 e.2), w ∈ q_TB := q_inTB [708, 1021, 1080, 1147, 1170, 1190, 1225, 1243, 1264, 1275, 1283, 1294, 1313, 1324, 1339, 1350, 1359, 1370, 1377, 1397, 1414, 1425, 1437, 1454, 1481, 1503, 1510, 1533, 1540, 1565, 1573] (by decide +kernel) (by decide +kernel)
theorem l_13_122 : Cond.methodLink (q_own 13) 122 yL_coast ∈ q_TB := p_LKw _ (List.mem_map_of_mem (f := fun e : Nat × MethodName => Cond.methodLink (q_own 13) e.1 e.2) (List.mem_of_getElem? (i := 0) (l := p_LK) rfl))
theorem l_13_132 : Cond.methodLink (q_own 13) 132 yL_law ∈ q_TB := p_LKw _ (List.mem_map_of_mem (f := fun e : Nat × MethodName => Cond.methodLink (q_own 13) e.1 e.2) (List.mem_of_getElem? (i := 1) (l := p_LK) rfl))
theorem l_13_135 : Cond.methodLink (q_own 13) 135 yL_work ∈ q_TB := p_LKw _ (List.mem_map_of_mem (f := fun e : Nat × MethodName => Cond.methodLink (q_own 13) e.1 e.2) (List.mem_of_getElem? (i := 2) (l := p_LK) rfl))
theorem l_13_138 : Cond.methodLink (q_own 13) 138 yL_book ∈ q_TB := p_LKw _ (List.mem_map_of_mem (f := fun e : Nat × MethodName => Cond.methodLink (q_own 13) e.1 e.2) (List.mem_of_getElem? (i := 3) (l := p_LK) rfl))
theorem l_13_149 : Cond.methodLink (q_own 13) 149 yL_told ∈ q_TB := p_LKw _ (List.mem_map_of_mem (f := fun e : Nat × MethodName => Cond.methodLink (q_own 13) e.1 e.2) (List.mem_of_getElem? (i := 4) (l := p_LK) rfl))
theorem l_13_152 : Cond.methodLink (q_own 13) 152 yL_creditor ∈ q_TB := p_LKw _ (List.mem_map_of_mem (f := fun e : Nat × MethodName => Cond.methodLink (q_own 13) e.1 e.2) (List.mem_of_getElem? (i := 5) (l := p_LK) rfl))
theorem l_13_156 : Cond.methodLink (q_own 13) 156 yL_debt ∈ q_TB := p_LKw _ (List.mem_map_of_mem (f := fun e : Nat × MethodName => Cond.methodLink (q_own 13) e.1 e.2) (List.mem_of_getElem? (i := 6) (l := p_LK) rfl))
theorem l_13_159 : Cond.methodLink (q_own 13) 159 yL_light ∈ q_TB := p_LKw _ (List.mem_map_of_mem (f := fun e : Nat × MethodName => Cond.methodLink (q_own 13) e.1 e.2) (List.mem_of_getElem? (i := 7) (l := p_LK) rfl))
theorem l_13_162 : Cond.methodLink (q_own 13) 162 yL_dusk ∈ q_TB := p_LKw _ (List.mem_map_of_mem (f := fun e : Nat × MethodName => Cond.methodLink (q_own 13) e.1 e.2) (List.mem_of_getElem? (i := 8) (l := p_LK) rfl))
theorem l_13_165 : Cond.methodLink (q_own 13) 165 yL_would ∈ q_TB := p_LKw _ (List.mem_map_of_mem (f := fun e : Nat × MethodName => Cond.methodLink (q_own 13) e.1 e.2) (List.mem_of_getElem? (i := 9) (l := p_LK) rfl))
theorem l_13_169 : Cond.methodLink (q_own 13) 169 yL_grows ∈ q_TB := p_LKw _ (List.mem_map_of_mem (f := fun e : Nat × MethodName => Cond.methodLink (q_own 13) e.1 e.2) (List.mem_of_getElem? (i := 10) (l := p_LK) rfl))
theorem l_13_172 : Cond.methodLink (q_own 13) 172 yL_best ∈ q_TB := p_LKw _ (List.mem_map_of_mem (f := fun e : Nat × MethodName => Cond.methodLink (q_own 13) e.1 e.2) (List.mem_of_getElem? (i := 11) (l := p_LK) rfl))
theorem l_13_179 : Cond.methodLink (q_own 13) 179 yL_left ∈ q_TB := p_LKw _ (List.mem_map_of_mem (f := fun e : Nat × MethodName => Cond.methodLink (q_own 13) e.1 e.2) (List.mem_of_getElem? (i := 12) (l := p_LK) rfl))
theorem l_13_182 : Cond.methodLink (q_own 13) 182 yL_delay ∈ q_TB := p_LKw _ (List.mem_map_of_mem (f := fun e : Nat × MethodName => Cond.methodLink (q_own 13) e.1 e.2) (List.mem_of_getElem? (i := 13) (l := p_LK) rfl))
theorem l_13_193 : Cond.methodLink (q_own 13) 193 yL_weds ∈ q_TB := p_LKw _ (List.mem_map_of_mem (f := fun e : Nat × MethodName => Cond.methodLink (q_own 13) e.1 e.2) (List.mem_of_getElem? (i := 14) (l := p_LK) rfl))
theorem l_13_196 : Cond.methodLink (q_own 13) 196 yL_choices ∈ q_TB := p_LKw _ (List.mem_map_of_mem (f := fun e : Nat × MethodName => Cond.methodLink (q_own 13) e.1 e.2) (List.mem_of_getElem? (i := 15) (l := p_LK) rfl))
theorem l_13_199 : Cond.methodLink (q_own 13) 199 yL_sees ∈ q_TB := p_LKw _ (List.mem_map_of_mem (f := fun e : Nat × MethodName => Cond.methodLink (q_own 13) e.1 e.2) (List.mem_of_getElem? (i := 16) (l := p_LK) rfl))
theorem l_13_202 : Cond.methodLink (q_own 13) 202 yL_eyes ∈ q_TB := p_LKw _ (List.mem_map_of_mem (f := fun e : Nat × MethodName => Cond.methodLink (q_own 13) e.1 e.2) (List.mem_of_getElem? (i := 17) (l := p_LK) rfl))
theorem l_13_205 : Cond.methodLink (q_own 13) 205 yL_chairs ∈ q_TB := p_LKw _ (List.mem_map_of_mem (f := fun e : Nat × MethodName => Cond.methodLink (q_own 13) e.1 e.2) (List.mem_of_getElem? (i := 18) (l := p_LK) rfl))
theorem l_13_208 : Cond.methodLink (q_own 13) 208 yL_gets ∈ q_TB := p_LKw _ (List.mem_map_of_mem (f := fun e : Nat × MethodName => Cond.methodLink (q_own 13) e.1 e.2) (List.mem_of_getElem? (i := 19) (l := p_LK) rfl))
theorem l_13_211 : Cond.methodLink (q_own 13) 211 yL_owes ∈ q_TB := p_LKw _ (List.mem_map_of_mem (f := fun e : Nat × MethodName => Cond.methodLink (q_own 13) e.1 e.2) (List.mem_of_getElem? (i := 20) (l := p_LK) rfl))
theorem l_13_214 : Cond.methodLink (q_own 13) 214 yL_net ∈ q_TB := p_LKw _ (List.mem_map_of_mem (f := fun e : Nat × MethodName => Cond.methodLink (q_own 13) e.1 e.2) (List.mem_of_getElem? (i := 21) (l := p_LK) rfl))
theorem l_13_217 : Cond.methodLink (q_own 13) 217 yL_struck ∈ q_TB := p_LKw _ (List.mem_map_of_mem (f := fun e : Nat × MethodName => Cond.methodLink (q_own 13) e.1 e.2) (List.mem_of_getElem? (i := 22) (l := p_LK) rfl))
theorem l_13_224 : Cond.methodLink (q_own 13) 224 yL_look ∈ q_TB := p_LKw _ (List.mem_map_of_mem (f := fun e : Nat × MethodName => Cond.methodLink (q_own 13) e.1 e.2) (List.mem_of_getElem? (i := 23) (l := p_LK) rfl))
theorem l_13_227 : Cond.methodLink (q_own 13) 227 yL_settle ∈ q_TB := p_LKw _ (List.mem_map_of_mem (f := fun e : Nat × MethodName => Cond.methodLink (q_own 13) e.1 e.2) (List.mem_of_getElem? (i := 24) (l := p_LK) rfl))
theorem l_13_231 : Cond.methodLink (q_own 13) 231 yL_now ∈ q_TB := p_LKw _ (List.mem_map_of_mem (f := fun e : Nat × MethodName => Cond.methodLink (q_own 13) e.1 e.2) (List.mem_of_getElem? (i := 25) (l := p_LK) rfl))
theorem l_13_234 : Cond.methodLink (q_own 13) 234 yL_bids ∈ q_TB := p_LKw _ (List.mem_map_of_mem (f := fun e : Nat × MethodName => Cond.methodLink (q_own 13) e.1 e.2) (List.mem_of_getElem? (i := 26) (l := p_LK) rfl))
theorem l_13_237 : Cond.methodLink (q_own 13) 237 yL_has ∈ q_TB := p_LKw _ (List.mem_map_of_mem (f := fun e : Nat × MethodName => Cond.methodLink (q_own 13) e.1 e.2) (List.mem_of_getElem? (i := 27) (l := p_LK) rfl))
theorem l_13_240 : Cond.methodLink (q_own 13) 240 yL_decade ∈ q_TB := p_LKw _ (List.mem_map_of_mem (f := fun e : Nat × MethodName => Cond.methodLink (q_own 13) e.1 e.2) (List.mem_of_getElem? (i := 28) (l := p_LK) rfl))
theorem l_13_244 : Cond.methodLink (q_own 13) 244 yL_span ∈ q_TB := p_LKw _ (List.mem_map_of_mem (f := fun e : Nat × MethodName => Cond.methodLink (q_own 13) e.1 e.2) (List.mem_of_getElem? (i := 29) (l := p_LK) rfl))
theorem l_13_251 : Cond.methodLink (q_own 13) 251 yL_brightest ∈ q_TB := p_LKw _ (List.mem_map_of_mem (f := fun e : Nat × MethodName => Cond.methodLink (q_own 13) e.1 e.2) (List.mem_of_getElem? (i := 30) (l := p_LK) rfl))
theorem p_CLw : ∀ w ∈ [Cond.classLink (q_own 13) 13 "java/lang/IllegalArgumentException", Cond.classLink (q_own 13) 31 "java/util/NoSuchElementException"], w ∈ q_TB := q_inTB [711, 1193] (by decide +kernel) (by decide +kernel)
theorem eL_coast {d : Nat} {x1 : Int32} {w : q_Sm} {Q : s_Po} (h : s_EvI d 1 mX11_coast w [.ref (1), .int (x1)] (fun v u => Q (some (.int 0)) (q_wJ u 116 0 (Int32.toInt64 v))) (fun E u => (E = "java/lang/IllegalArgumentException" ∧ Q (some (.int 1)) u))) : ps_EvW (d + 1) 1 mL_coast hL_coast w [.ref (1), .int (x1), .ref (116)] Q := by
  refine ps_evW (by decide +kernel) rfl (Nat.le_of_ble_eq_true rfl) cL_coast_in ?_
  show ps_Ex (p_CW hL_coast) (d + 1) 1 mL_coast 0 [some (.ref 1), some (.int x1), some (.ref 116), none] [] w Q (fun _ _ => False)
  refine ps_blk [(.aload_n 2, 1, 0, 0), (.iconst 0, 1, 0, 0), (.aload_n 0, 1, 0, 0), (.iload_n 1, 1, 0, 0)] 4 [some (.ref 1), some (.int x1), some (.ref 116), none] [.int (x1), .ref (1), .int (0), .ref (116)] w [] (by decide +kernel) (by refine qt_aload_n (r := 116) rfl ?_; refine qt_iconst qc_0 ?_; refine qt_aload_n (r := 1) rfl ?_; refine qt_iload_n (x := x1) rfl ?_; exact qt_z rfl rfl rfl rfl rfl) trivial ?_
  refine ps_callC (a := 0) (a' := 1) (As := [.int (x1)]) (id := 1) (st := [.int (0), .ref (116)]) kX11_coast l_13_7 (by decide +kernel) (q_id_of rfl) rfl (Nat.le_of_ble_eq_true rfl) (s_mono h (s_I_of (fun v u h => ?_)) (fun E u h => ?_))
  · show ps_Ex (p_CW hL_coast) (d + 1) 0 mL_coast 7 [some (.ref 1), some (.int x1), some (.ref 116), none] [.int v, .int 0, .ref 116] u Q (fun _ _ => False)
    refine ps_blk [(.i2l, 1, 0, 0), (.lastore, 1, 0, 0), (.goto 6, 3, 15, 0), (.iconst 0, 1, 0, 0)] 16 [some (.ref 1), some (.int x1), some (.ref 116), none] [.int (0)] (q_wJ u 116 0 (Int32.toInt64 v)) [q_id 116 15 116, vp_in 0 (q_sh 116).2] (by decide +kernel) (by refine qt_i2l ?_; refine qt_jast ?_; refine qt_goto ?_; refine qt_iconst qc_0 ?_; exact qt_z rfl rfl rfl rfl rfl) ⟨(q_id_of rfl), (q_vin rfl)⟩ ?_
    exact ps_retI .int (by decide +kernel) rfl rfl h
  · obtain ⟨rfl, h⟩ := h
    refine ⟨[], ⟨0, 9, 12, 13⟩, [], "java/lang/IllegalArgumentException", 3, 1, fun G s m args c hΦ => ⟨hΦ.1, fun z hz => by cases hz⟩, by decide, by decide, p_CLw _ (by simp), by simp [q_CA], Or.inl ⟨3, rfl, rfl, by decide +kernel⟩, by decide, ?_⟩
    refine ps_blk [(.iconst 1, 1, 0, 0)] 14 (p_fg [some (.ref 1), some (.int x1), some (.ref 116), none] 3) [.int (1)] u [] (by decide +kernel) (by refine qt_iconst qc_1 ?_; exact qt_z rfl rfl rfl rfl rfl) trivial ?_
    exact ps_retI .int (by decide +kernel) rfl rfl h
theorem eL_law {d : Nat} {x1 : Int32} {w : q_Sm} {Q : s_Po} (h : s_EvI d 1 mX11_law w [.ref (1), .int (x1)] (fun v u => Q (some (.int 0)) (q_wJ u 116 0 (Int32.toInt64 v))) (fun E u => (E = "java/lang/IllegalArgumentException" ∧ Q (some (.int 1)) u))) : ps_EvW (d + 1) 1 mL_law hL_law w [.ref (1), .int (x1), .ref (116)] Q := by
  refine ps_evW (by decide +kernel) rfl (Nat.le_of_ble_eq_true rfl) cL_law_in ?_
  show ps_Ex (p_CW hL_law) (d + 1) 1 mL_law 0 [some (.ref 1), some (.int x1), some (.ref 116), none] [] w Q (fun _ _ => False)
  refine ps_blk [(.aload_n 2, 1, 0, 0), (.iconst 0, 1, 0, 0), (.aload_n 0, 1, 0, 0), (.iload_n 1, 1, 0, 0)] 4 [some (.ref 1), some (.int x1), some (.ref 116), none] [.int (x1), .ref (1), .int (0), .ref (116)] w [] (by decide +kernel) (by refine qt_aload_n (r := 116) rfl ?_; refine qt_iconst qc_0 ?_; refine qt_aload_n (r := 1) rfl ?_; refine qt_iload_n (x := x1) rfl ?_; exact qt_z rfl rfl rfl rfl rfl) trivial ?_
  refine ps_callC (a := 0) (a' := 1) (As := [.int (x1)]) (id := 1) (st := [.int (0), .ref (116)]) kX11_law l_13_15 (by decide +kernel) (q_id_of rfl) rfl (Nat.le_of_ble_eq_true rfl) (s_mono h (s_I_of (fun v u h => ?_)) (fun E u h => ?_))
  · show ps_Ex (p_CW hL_law) (d + 1) 0 mL_law 7 [some (.ref 1), some (.int x1), some (.ref 116), none] [.int v, .int 0, .ref 116] u Q (fun _ _ => False)
    refine ps_blk [(.i2l, 1, 0, 0), (.lastore, 1, 0, 0), (.goto 6, 3, 15, 0), (.iconst 0, 1, 0, 0)] 16 [some (.ref 1), some (.int x1), some (.ref 116), none] [.int (0)] (q_wJ u 116 0 (Int32.toInt64 v)) [q_id 116 15 116, vp_in 0 (q_sh 116).2] (by decide +kernel) (by refine qt_i2l ?_; refine qt_jast ?_; refine qt_goto ?_; refine qt_iconst qc_0 ?_; exact qt_z rfl rfl rfl rfl rfl) ⟨(q_id_of rfl), (q_vin rfl)⟩ ?_
    exact ps_retI .int (by decide +kernel) rfl rfl h
  · obtain ⟨rfl, h⟩ := h
    refine ⟨[], ⟨0, 9, 12, 13⟩, [], "java/lang/IllegalArgumentException", 3, 1, fun G s m args c hΦ => ⟨hΦ.1, fun z hz => by cases hz⟩, by decide, by decide, p_CLw _ (by simp), by simp [q_CA], Or.inl ⟨3, rfl, rfl, by decide +kernel⟩, by decide, ?_⟩
    refine ps_blk [(.iconst 1, 1, 0, 0)] 14 (p_fg [some (.ref 1), some (.int x1), some (.ref 116), none] 3) [.int (1)] u [] (by decide +kernel) (by refine qt_iconst qc_1 ?_; exact qt_z rfl rfl rfl rfl rfl) trivial ?_
    exact ps_retI .int (by decide +kernel) rfl rfl h
theorem eL_work {d : Nat} {x1 : Int32} {w : q_Sm} {Q : s_Po} (h : s_EvI d 1 mX11_work w [.ref (1), .int (x1)] (fun v u => Q (some (.int 0)) (q_wJ u 116 0 (Int32.toInt64 v))) (fun E u => (E = "java/lang/IllegalArgumentException" ∧ Q (some (.int 1)) u))) : ps_EvW (d + 1) 1 mL_work hL_work w [.ref (1), .int (x1), .ref (116)] Q := by
  refine ps_evW (by decide +kernel) rfl (Nat.le_of_ble_eq_true rfl) cL_work_in ?_
  show ps_Ex (p_CW hL_work) (d + 1) 1 mL_work 0 [some (.ref 1), some (.int x1), some (.ref 116), none] [] w Q (fun _ _ => False)
  refine ps_blk [(.aload_n 2, 1, 0, 0), (.iconst 0, 1, 0, 0), (.aload_n 0, 1, 0, 0), (.iload_n 1, 1, 0, 0)] 4 [some (.ref 1), some (.int x1), some (.ref 116), none] [.int (x1), .ref (1), .int (0), .ref (116)] w [] (by decide +kernel) (by refine qt_aload_n (r := 116) rfl ?_; refine qt_iconst qc_0 ?_; refine qt_aload_n (r := 1) rfl ?_; refine qt_iload_n (x := x1) rfl ?_; exact qt_z rfl rfl rfl rfl rfl) trivial ?_
  refine ps_callC (a := 0) (a' := 1) (As := [.int (x1)]) (id := 1) (st := [.int (0), .ref (116)]) kX11_work l_13_18 (by decide +kernel) (q_id_of rfl) rfl (Nat.le_of_ble_eq_true rfl) (s_mono h (s_I_of (fun v u h => ?_)) (fun E u h => ?_))
  · show ps_Ex (p_CW hL_work) (d + 1) 0 mL_work 7 [some (.ref 1), some (.int x1), some (.ref 116), none] [.int v, .int 0, .ref 116] u Q (fun _ _ => False)
    refine ps_blk [(.i2l, 1, 0, 0), (.lastore, 1, 0, 0), (.goto 6, 3, 15, 0), (.iconst 0, 1, 0, 0)] 16 [some (.ref 1), some (.int x1), some (.ref 116), none] [.int (0)] (q_wJ u 116 0 (Int32.toInt64 v)) [q_id 116 15 116, vp_in 0 (q_sh 116).2] (by decide +kernel) (by refine qt_i2l ?_; refine qt_jast ?_; refine qt_goto ?_; refine qt_iconst qc_0 ?_; exact qt_z rfl rfl rfl rfl rfl) ⟨(q_id_of rfl), (q_vin rfl)⟩ ?_
    exact ps_retI .int (by decide +kernel) rfl rfl h
  · obtain ⟨rfl, h⟩ := h
    refine ⟨[], ⟨0, 9, 12, 13⟩, [], "java/lang/IllegalArgumentException", 3, 1, fun G s m args c hΦ => ⟨hΦ.1, fun z hz => by cases hz⟩, by decide, by decide, p_CLw _ (by simp), by simp [q_CA], Or.inl ⟨3, rfl, rfl, by decide +kernel⟩, by decide, ?_⟩
    refine ps_blk [(.iconst 1, 1, 0, 0)] 14 (p_fg [some (.ref 1), some (.int x1), some (.ref 116), none] 3) [.int (1)] u [] (by decide +kernel) (by refine qt_iconst qc_1 ?_; exact qt_z rfl rfl rfl rfl rfl) trivial ?_
    exact ps_retI .int (by decide +kernel) rfl rfl h
theorem eL_book {d : Nat} {x1 : Int32} {w : q_Sm} {Q : s_Po} (h : s_EvI d 1 mX11_book w [.ref (1), .int (x1)] (fun v u => Q (some (.int 0)) (q_wJ u 116 0 (Int32.toInt64 v))) (fun E u => (E = "java/lang/IllegalArgumentException" ∧ Q (some (.int 1)) u))) : ps_EvW (d + 1) 1 mL_book hL_book w [.ref (1), .int (x1), .ref (116)] Q := by
  refine ps_evW (by decide +kernel) rfl (Nat.le_of_ble_eq_true rfl) cL_book_in ?_
  show ps_Ex (p_CW hL_book) (d + 1) 1 mL_book 0 [some (.ref 1), some (.int x1), some (.ref 116), none] [] w Q (fun _ _ => False)
  refine ps_blk [(.aload_n 2, 1, 0, 0), (.iconst 0, 1, 0, 0), (.aload_n 0, 1, 0, 0), (.iload_n 1, 1, 0, 0)] 4 [some (.ref 1), some (.int x1), some (.ref 116), none] [.int (x1), .ref (1), .int (0), .ref (116)] w [] (by decide +kernel) (by refine qt_aload_n (r := 116) rfl ?_; refine qt_iconst qc_0 ?_; refine qt_aload_n (r := 1) rfl ?_; refine qt_iload_n (x := x1) rfl ?_; exact qt_z rfl rfl rfl rfl rfl) trivial ?_
  refine ps_callC (a := 0) (a' := 1) (As := [.int (x1)]) (id := 1) (st := [.int (0), .ref (116)]) kX11_book l_13_21 (by decide +kernel) (q_id_of rfl) rfl (Nat.le_of_ble_eq_true rfl) (s_mono h (s_I_of (fun v u h => ?_)) (fun E u h => ?_))
  · show ps_Ex (p_CW hL_book) (d + 1) 0 mL_book 7 [some (.ref 1), some (.int x1), some (.ref 116), none] [.int v, .int 0, .ref 116] u Q (fun _ _ => False)
    refine ps_blk [(.i2l, 1, 0, 0), (.lastore, 1, 0, 0), (.goto 6, 3, 15, 0), (.iconst 0, 1, 0, 0)] 16 [some (.ref 1), some (.int x1), some (.ref 116), none] [.int (0)] (q_wJ u 116 0 (Int32.toInt64 v)) [q_id 116 15 116, vp_in 0 (q_sh 116).2] (by decide +kernel) (by refine qt_i2l ?_; refine qt_jast ?_; refine qt_goto ?_; refine qt_iconst qc_0 ?_; exact qt_z rfl rfl rfl rfl rfl) ⟨(q_id_of rfl), (q_vin rfl)⟩ ?_
    exact ps_retI .int (by decide +kernel) rfl rfl h
  · obtain ⟨rfl, h⟩ := h
    refine ⟨[], ⟨0, 9, 12, 13⟩, [], "java/lang/IllegalArgumentException", 3, 1, fun G s m args c hΦ => ⟨hΦ.1, fun z hz => by cases hz⟩, by decide, by decide, p_CLw _ (by simp), by simp [q_CA], Or.inl ⟨3, rfl, rfl, by decide +kernel⟩, by decide, ?_⟩
    refine ps_blk [(.iconst 1, 1, 0, 0)] 14 (p_fg [some (.ref 1), some (.int x1), some (.ref 116), none] 3) [.int (1)] u [] (by decide +kernel) (by refine qt_iconst qc_1 ?_; exact qt_z rfl rfl rfl rfl rfl) trivial ?_
    exact ps_retI .int (by decide +kernel) rfl rfl h
theorem eL_told {d : Nat} {x1 : Int32} {w : q_Sm} {Q : s_Po} (h : s_EvI d 1 mX11_told w [.ref (1), .int (x1)] (fun v u => Q (some (.int 0)) (q_wJ u 116 0 (Int32.toInt64 v))) (fun E u => (E = "java/lang/IllegalArgumentException" ∧ Q (some (.int 1)) u))) : ps_EvW (d + 1) 1 mL_told hL_told w [.ref (1), .int (x1), .ref (116)] Q := by
  refine ps_evW (by decide +kernel) rfl (Nat.le_of_ble_eq_true rfl) cL_told_in ?_
  show ps_Ex (p_CW hL_told) (d + 1) 1 mL_told 0 [some (.ref 1), some (.int x1), some (.ref 116), none] [] w Q (fun _ _ => False)
  refine ps_blk [(.aload_n 2, 1, 0, 0), (.iconst 0, 1, 0, 0), (.aload_n 0, 1, 0, 0), (.iload_n 1, 1, 0, 0)] 4 [some (.ref 1), some (.int x1), some (.ref 116), none] [.int (x1), .ref (1), .int (0), .ref (116)] w [] (by decide +kernel) (by refine qt_aload_n (r := 116) rfl ?_; refine qt_iconst qc_0 ?_; refine qt_aload_n (r := 1) rfl ?_; refine qt_iload_n (x := x1) rfl ?_; exact qt_z rfl rfl rfl rfl rfl) trivial ?_
  refine ps_callC (a := 0) (a' := 1) (As := [.int (x1)]) (id := 1) (st := [.int (0), .ref (116)]) kX11_told l_13_24 (by decide +kernel) (q_id_of rfl) rfl (Nat.le_of_ble_eq_true rfl) (s_mono h (s_I_of (fun v u h => ?_)) (fun E u h => ?_))
  · show ps_Ex (p_CW hL_told) (d + 1) 0 mL_told 7 [some (.ref 1), some (.int x1), some (.ref 116), none] [.int v, .int 0, .ref 116] u Q (fun _ _ => False)
    refine ps_blk [(.i2l, 1, 0, 0), (.lastore, 1, 0, 0), (.goto 6, 3, 15, 0), (.iconst 0, 1, 0, 0)] 16 [some (.ref 1), some (.int x1), some (.ref 116), none] [.int (0)] (q_wJ u 116 0 (Int32.toInt64 v)) [q_id 116 15 116, vp_in 0 (q_sh 116).2] (by decide +kernel) (by refine qt_i2l ?_; refine qt_jast ?_; refine qt_goto ?_; refine qt_iconst qc_0 ?_; exact qt_z rfl rfl rfl rfl rfl) ⟨(q_id_of rfl), (q_vin rfl)⟩ ?_
    exact ps_retI .int (by decide +kernel) rfl rfl h
  · obtain ⟨rfl, h⟩ := h
    refine ⟨[], ⟨0, 9, 12, 13⟩, [], "java/lang/IllegalArgumentException", 3, 1, fun G s m args c hΦ => ⟨hΦ.1, fun z hz => by cases hz⟩, by decide, by decide, p_CLw _ (by simp), by simp [q_CA], Or.inl ⟨3, rfl, rfl, by decide +kernel⟩, by decide, ?_⟩
    refine ps_blk [(.iconst 1, 1, 0, 0)] 14 (p_fg [some (.ref 1), some (.int x1), some (.ref 116), none] 3) [.int (1)] u [] (by decide +kernel) (by refine qt_iconst qc_1 ?_; exact qt_z rfl rfl rfl rfl rfl) trivial ?_
    exact ps_retI .int (by decide +kernel) rfl rfl h
theorem eL_creditor {d : Nat} {x1 : Int32} {x2 : Int32} {w : q_Sm} {Q : s_Po} (h : s_EvI d 2 mX11_creditor w [.ref (1), .int (x1), .int (x2)] (fun v u => Q (some (.int 0)) (q_wJ u 116 0 (Int32.toInt64 v))) (fun E u => (E = "java/util/NoSuchElementException" ∧ Q (some (.int 1)) u) ∨ (E = "java/lang/IllegalArgumentException" ∧ Q (some (.int 2)) u))) : ps_EvW (d + 1) 2 mL_creditor hL_creditor w [.ref (1), .int (x1), .int (x2), .ref (116)] Q := by
  refine ps_evW (by decide +kernel) rfl (Nat.le_of_ble_eq_true rfl) cL_creditor_in ?_
  show ps_Ex (p_CW hL_creditor) (d + 1) 2 mL_creditor 0 [some (.ref 1), some (.int x1), some (.int x2), some (.ref 116), none] [] w Q (fun _ _ => False)
  refine ps_blk [(.aload_n 3, 1, 0, 0), (.iconst 0, 1, 0, 0), (.aload_n 0, 1, 0, 0), (.iload_n 1, 1, 0, 0), (.iload_n 2, 1, 0, 0)] 5 [some (.ref 1), some (.int x1), some (.int x2), some (.ref 116), none] [.int (x2), .int (x1), .ref (1), .int (0), .ref (116)] w [] (by decide +kernel) (by refine qt_aload_n (r := 116) rfl ?_; refine qt_iconst qc_0 ?_; refine qt_aload_n (r := 1) rfl ?_; refine qt_iload_n (x := x1) rfl ?_; refine qt_iload_n (x := x2) rfl ?_; exact qt_z rfl rfl rfl rfl rfl) trivial ?_
  refine ps_callC (a := 0) (a' := 2) (As := [.int (x1), .int (x2)]) (id := 1) (st := [.int (0), .ref (116)]) kX11_creditor l_13_27 (by decide +kernel) (q_id_of rfl) rfl (Nat.le_of_ble_eq_true rfl) (s_mono h (s_I_of (fun v u h => ?_)) (fun E u h => ?_))
  · show ps_Ex (p_CW hL_creditor) (d + 1) 0 mL_creditor 8 [some (.ref 1), some (.int x1), some (.int x2), some (.ref 116), none] [.int v, .int 0, .ref 116] u Q (fun _ _ => False)
    refine ps_blk [(.i2l, 1, 0, 0), (.lastore, 1, 0, 0), (.goto 11, 3, 21, 0), (.iconst 0, 1, 0, 0)] 22 [some (.ref 1), some (.int x1), some (.int x2), some (.ref 116), none] [.int (0)] (q_wJ u 116 0 (Int32.toInt64 v)) [q_id 116 15 116, vp_in 0 (q_sh 116).2] (by decide +kernel) (by refine qt_i2l ?_; refine qt_jast ?_; refine qt_goto ?_; refine qt_iconst qc_0 ?_; exact qt_z rfl rfl rfl rfl rfl) ⟨(q_id_of rfl), (q_vin rfl)⟩ ?_
    exact ps_retI .int (by decide +kernel) rfl rfl h
  · rcases h with ⟨rfl, h⟩ | ⟨rfl, h⟩
    · refine ⟨[], ⟨0, 10, 13, 31⟩, [⟨0, 10, 17, 13⟩], "java/util/NoSuchElementException", 4, 2, fun G s m args c hΦ => ⟨hΦ.1, fun z hz => by cases hz⟩, by decide, by decide, p_CLw _ (by simp), by simp [q_CA], Or.inr ⟨rfl, by decide +kernel⟩, by decide, ?_⟩
      refine ps_blk [(.iconst 1, 1, 0, 0)] 16 (p_fg [some (.ref 1), some (.int x1), some (.int x2), some (.ref 116), none] 4) [.int (1)] u [] (by decide +kernel) (by refine qt_iconst qc_1 ?_; exact qt_z rfl rfl rfl rfl rfl) trivial ?_
      exact ps_retI .int (by decide +kernel) rfl rfl h
    · refine ⟨[⟨0, 10, 13, 31⟩], ⟨0, 10, 17, 13⟩, [], "java/lang/IllegalArgumentException", 4, 2, fun G s m args c hΦ => ⟨hΦ.1, fun z hz => by rw [List.mem_singleton.mp hz]; exact Or.inr ⟨by decide, "java/util/NoSuchElementException", p_CLw _ (by simp), hΦ.2⟩⟩, by decide, by decide, p_CLw _ (by simp), by simp [q_CA], Or.inr ⟨rfl, by decide +kernel⟩, by decide, ?_⟩
      refine ps_blk [(.iconst 2, 1, 0, 0)] 20 (p_fg [some (.ref 1), some (.int x1), some (.int x2), some (.ref 116), none] 4) [.int (2)] u [] (by decide +kernel) (by refine qt_iconst qc_2 ?_; exact qt_z rfl rfl rfl rfl rfl) trivial ?_
      exact ps_retI .int (by decide +kernel) rfl rfl h
theorem eL_debt {d : Nat} {x1 : Int32} {x2 : Int32} {w : q_Sm} {Q : s_Po} (h : s_EvI d 2 mX11_debt w [.ref (1), .int (x1), .int (x2)] (fun v u => Q (some (.int 0)) (q_wJ u 116 0 (Int32.toInt64 v))) (fun E u => (E = "java/util/NoSuchElementException" ∧ Q (some (.int 1)) u) ∨ (E = "java/lang/IllegalArgumentException" ∧ Q (some (.int 2)) u))) : ps_EvW (d + 1) 2 mL_debt hL_debt w [.ref (1), .int (x1), .int (x2), .ref (116)] Q := by
  refine ps_evW (by decide +kernel) rfl (Nat.le_of_ble_eq_true rfl) cL_debt_in ?_
  show ps_Ex (p_CW hL_debt) (d + 1) 2 mL_debt 0 [some (.ref 1), some (.int x1), some (.int x2), some (.ref 116), none] [] w Q (fun _ _ => False)
  refine ps_blk [(.aload_n 3, 1, 0, 0), (.iconst 0, 1, 0, 0), (.aload_n 0, 1, 0, 0), (.iload_n 1, 1, 0, 0), (.iload_n 2, 1, 0, 0)] 5 [some (.ref 1), some (.int x1), some (.int x2), some (.ref 116), none] [.int (x2), .int (x1), .ref (1), .int (0), .ref (116)] w [] (by decide +kernel) (by refine qt_aload_n (r := 116) rfl ?_; refine qt_iconst qc_0 ?_; refine qt_aload_n (r := 1) rfl ?_; refine qt_iload_n (x := x1) rfl ?_; refine qt_iload_n (x := x2) rfl ?_; exact qt_z rfl rfl rfl rfl rfl) trivial ?_
  refine ps_callC (a := 0) (a' := 2) (As := [.int (x1), .int (x2)]) (id := 1) (st := [.int (0), .ref (116)]) kX11_debt l_13_33 (by decide +kernel) (q_id_of rfl) rfl (Nat.le_of_ble_eq_true rfl) (s_mono h (s_I_of (fun v u h => ?_)) (fun E u h => ?_))
  · show ps_Ex (p_CW hL_debt) (d + 1) 0 mL_debt 8 [some (.ref 1), some (.int x1), some (.int x2), some (.ref 116), none] [.int v, .int 0, .ref 116] u Q (fun _ _ => False)
    refine ps_blk [(.i2l, 1, 0, 0), (.lastore, 1, 0, 0), (.goto 11, 3, 21, 0), (.iconst 0, 1, 0, 0)] 22 [some (.ref 1), some (.int x1), some (.int x2), some (.ref 116), none] [.int (0)] (q_wJ u 116 0 (Int32.toInt64 v)) [q_id 116 15 116, vp_in 0 (q_sh 116).2] (by decide +kernel) (by refine qt_i2l ?_; refine qt_jast ?_; refine qt_goto ?_; refine qt_iconst qc_0 ?_; exact qt_z rfl rfl rfl rfl rfl) ⟨(q_id_of rfl), (q_vin rfl)⟩ ?_
    exact ps_retI .int (by decide +kernel) rfl rfl h
  · rcases h with ⟨rfl, h⟩ | ⟨rfl, h⟩
    · refine ⟨[], ⟨0, 10, 13, 31⟩, [⟨0, 10, 17, 13⟩], "java/util/NoSuchElementException", 4, 2, fun G s m args c hΦ => ⟨hΦ.1, fun z hz => by cases hz⟩, by decide, by decide, p_CLw _ (by simp), by simp [q_CA], Or.inr ⟨rfl, by decide +kernel⟩, by decide, ?_⟩
      refine ps_blk [(.iconst 1, 1, 0, 0)] 16 (p_fg [some (.ref 1), some (.int x1), some (.int x2), some (.ref 116), none] 4) [.int (1)] u [] (by decide +kernel) (by refine qt_iconst qc_1 ?_; exact qt_z rfl rfl rfl rfl rfl) trivial ?_
      exact ps_retI .int (by decide +kernel) rfl rfl h
    · refine ⟨[⟨0, 10, 13, 31⟩], ⟨0, 10, 17, 13⟩, [], "java/lang/IllegalArgumentException", 4, 2, fun G s m args c hΦ => ⟨hΦ.1, fun z hz => by rw [List.mem_singleton.mp hz]; exact Or.inr ⟨by decide, "java/util/NoSuchElementException", p_CLw _ (by simp), hΦ.2⟩⟩, by decide, by decide, p_CLw _ (by simp), by simp [q_CA], Or.inr ⟨rfl, by decide +kernel⟩, by decide, ?_⟩
      refine ps_blk [(.iconst 2, 1, 0, 0)] 20 (p_fg [some (.ref 1), some (.int x1), some (.int x2), some (.ref 116), none] 4) [.int (2)] u [] (by decide +kernel) (by refine qt_iconst qc_2 ?_; exact qt_z rfl rfl rfl rfl rfl) trivial ?_
      exact ps_retI .int (by decide +kernel) rfl rfl h
theorem eL_light {d : Nat} {x1 : Int32} {x2 : Int32} {w : q_Sm} {Q : s_Po} (h : s_EvI d 1 mX11_light w [.ref (1), .int (x1), .int (x2)] (fun v u => Q (some (.int 0)) (q_wJ u 116 0 (Int32.toInt64 v))) (fun E u => (E = "java/lang/IllegalArgumentException" ∧ Q (some (.int 1)) u))) : ps_EvW (d + 1) 1 mL_light hL_light w [.ref (1), .int (x1), .int (x2), .ref (116)] Q := by
  refine ps_evW (by decide +kernel) rfl (Nat.le_of_ble_eq_true rfl) cL_light_in ?_
  show ps_Ex (p_CW hL_light) (d + 1) 1 mL_light 0 [some (.ref 1), some (.int x1), some (.int x2), some (.ref 116), none] [] w Q (fun _ _ => False)
  refine ps_blk [(.aload_n 3, 1, 0, 0), (.iconst 0, 1, 0, 0), (.aload_n 0, 1, 0, 0), (.iload_n 1, 1, 0, 0), (.iload_n 2, 1, 0, 0)] 5 [some (.ref 1), some (.int x1), some (.int x2), some (.ref 116), none] [.int (x2), .int (x1), .ref (1), .int (0), .ref (116)] w [] (by decide +kernel) (by refine qt_aload_n (r := 116) rfl ?_; refine qt_iconst qc_0 ?_; refine qt_aload_n (r := 1) rfl ?_; refine qt_iload_n (x := x1) rfl ?_; refine qt_iload_n (x := x2) rfl ?_; exact qt_z rfl rfl rfl rfl rfl) trivial ?_
  refine ps_callC (a := 0) (a' := 1) (As := [.int (x1), .int (x2)]) (id := 1) (st := [.int (0), .ref (116)]) kX11_light l_13_36 (by decide +kernel) (q_id_of rfl) rfl (Nat.le_of_ble_eq_true rfl) (s_mono h (s_I_of (fun v u h => ?_)) (fun E u h => ?_))
  · show ps_Ex (p_CW hL_light) (d + 1) 0 mL_light 8 [some (.ref 1), some (.int x1), some (.int x2), some (.ref 116), none] [.int v, .int 0, .ref 116] u Q (fun _ _ => False)
    refine ps_blk [(.i2l, 1, 0, 0), (.lastore, 1, 0, 0), (.goto 7, 3, 17, 0), (.iconst 0, 1, 0, 0)] 18 [some (.ref 1), some (.int x1), some (.int x2), some (.ref 116), none] [.int (0)] (q_wJ u 116 0 (Int32.toInt64 v)) [q_id 116 15 116, vp_in 0 (q_sh 116).2] (by decide +kernel) (by refine qt_i2l ?_; refine qt_jast ?_; refine qt_goto ?_; refine qt_iconst qc_0 ?_; exact qt_z rfl rfl rfl rfl rfl) ⟨(q_id_of rfl), (q_vin rfl)⟩ ?_
    exact ps_retI .int (by decide +kernel) rfl rfl h
  · obtain ⟨rfl, h⟩ := h
    refine ⟨[], ⟨0, 10, 13, 13⟩, [], "java/lang/IllegalArgumentException", 4, 2, fun G s m args c hΦ => ⟨hΦ.1, fun z hz => by cases hz⟩, by decide, by decide, p_CLw _ (by simp), by simp [q_CA], Or.inr ⟨rfl, by decide +kernel⟩, by decide, ?_⟩
    refine ps_blk [(.iconst 1, 1, 0, 0)] 16 (p_fg [some (.ref 1), some (.int x1), some (.int x2), some (.ref 116), none] 4) [.int (1)] u [] (by decide +kernel) (by refine qt_iconst qc_1 ?_; exact qt_z rfl rfl rfl rfl rfl) trivial ?_
    exact ps_retI .int (by decide +kernel) rfl rfl h
theorem eL_dusk {d : Nat} {x1 : Int32} {x2 : Int32} {w : q_Sm} {Q : s_Po} (h : s_EvI d 1 mX11_dusk w [.ref (1), .int (x1), .int (x2)] (fun v u => Q (some (.int 0)) (q_wJ u 116 0 (Int32.toInt64 v))) (fun E u => (E = "java/lang/IllegalArgumentException" ∧ Q (some (.int 1)) u))) : ps_EvW (d + 1) 1 mL_dusk hL_dusk w [.ref (1), .int (x1), .int (x2), .ref (116)] Q := by
  refine ps_evW (by decide +kernel) rfl (Nat.le_of_ble_eq_true rfl) cL_dusk_in ?_
  show ps_Ex (p_CW hL_dusk) (d + 1) 1 mL_dusk 0 [some (.ref 1), some (.int x1), some (.int x2), some (.ref 116), none] [] w Q (fun _ _ => False)
  refine ps_blk [(.aload_n 3, 1, 0, 0), (.iconst 0, 1, 0, 0), (.aload_n 0, 1, 0, 0), (.iload_n 1, 1, 0, 0), (.iload_n 2, 1, 0, 0)] 5 [some (.ref 1), some (.int x1), some (.int x2), some (.ref 116), none] [.int (x2), .int (x1), .ref (1), .int (0), .ref (116)] w [] (by decide +kernel) (by refine qt_aload_n (r := 116) rfl ?_; refine qt_iconst qc_0 ?_; refine qt_aload_n (r := 1) rfl ?_; refine qt_iload_n (x := x1) rfl ?_; refine qt_iload_n (x := x2) rfl ?_; exact qt_z rfl rfl rfl rfl rfl) trivial ?_
  refine ps_callC (a := 0) (a' := 1) (As := [.int (x1), .int (x2)]) (id := 1) (st := [.int (0), .ref (116)]) kX11_dusk l_13_39 (by decide +kernel) (q_id_of rfl) rfl (Nat.le_of_ble_eq_true rfl) (s_mono h (s_I_of (fun v u h => ?_)) (fun E u h => ?_))
  · show ps_Ex (p_CW hL_dusk) (d + 1) 0 mL_dusk 8 [some (.ref 1), some (.int x1), some (.int x2), some (.ref 116), none] [.int v, .int 0, .ref 116] u Q (fun _ _ => False)
    refine ps_blk [(.i2l, 1, 0, 0), (.lastore, 1, 0, 0), (.goto 7, 3, 17, 0), (.iconst 0, 1, 0, 0)] 18 [some (.ref 1), some (.int x1), some (.int x2), some (.ref 116), none] [.int (0)] (q_wJ u 116 0 (Int32.toInt64 v)) [q_id 116 15 116, vp_in 0 (q_sh 116).2] (by decide +kernel) (by refine qt_i2l ?_; refine qt_jast ?_; refine qt_goto ?_; refine qt_iconst qc_0 ?_; exact qt_z rfl rfl rfl rfl rfl) ⟨(q_id_of rfl), (q_vin rfl)⟩ ?_
    exact ps_retI .int (by decide +kernel) rfl rfl h
  · obtain ⟨rfl, h⟩ := h
    refine ⟨[], ⟨0, 10, 13, 13⟩, [], "java/lang/IllegalArgumentException", 4, 2, fun G s m args c hΦ => ⟨hΦ.1, fun z hz => by cases hz⟩, by decide, by decide, p_CLw _ (by simp), by simp [q_CA], Or.inr ⟨rfl, by decide +kernel⟩, by decide, ?_⟩
    refine ps_blk [(.iconst 1, 1, 0, 0)] 16 (p_fg [some (.ref 1), some (.int x1), some (.int x2), some (.ref 116), none] 4) [.int (1)] u [] (by decide +kernel) (by refine qt_iconst qc_1 ?_; exact qt_z rfl rfl rfl rfl rfl) trivial ?_
    exact ps_retI .int (by decide +kernel) rfl rfl h
theorem eL_would {d : Nat} {x1 : Int32} {x2 : Int32} {x3 : Int32} {x4 : Int32} {w : q_Sm} {Q : s_Po} (h : s_EvI d 1 mX11_would w [.ref (1), .int (x1), .int (x2), .int (x3), .int (x4)] (fun v u => Q (some (.int 0)) (q_wJ u 116 0 (Int32.toInt64 v))) (fun E u => (E = "java/lang/IllegalArgumentException" ∧ Q (some (.int 1)) u))) : ps_EvW (d + 1) 1 mL_would hL_would w [.ref (1), .int (x1), .int (x2), .int (x3), .int (x4), .ref (116)] Q := by
  refine ps_evW (by decide +kernel) rfl (Nat.le_of_ble_eq_true rfl) cL_would_in ?_
  show ps_Ex (p_CW hL_would) (d + 1) 1 mL_would 0 [some (.ref 1), some (.int x1), some (.int x2), some (.int x3), some (.int x4), some (.ref 116), none] [] w Q (fun _ _ => False)
  refine ps_blk [(.aload 5, 2, 0, 0), (.iconst 0, 1, 0, 0), (.aload_n 0, 1, 0, 0), (.iload_n 1, 1, 0, 0), (.iload_n 2, 1, 0, 0), (.iload_n 3, 1, 0, 0), (.iload 4, 2, 0, 0)] 9 [some (.ref 1), some (.int x1), some (.int x2), some (.int x3), some (.int x4), some (.ref 116), none] [.int (x4), .int (x3), .int (x2), .int (x1), .ref (1), .int (0), .ref (116)] w [] (by decide +kernel) (by refine qt_aload (r := 116) rfl ?_; refine qt_iconst qc_0 ?_; refine qt_aload_n (r := 1) rfl ?_; refine qt_iload_n (x := x1) rfl ?_; refine qt_iload_n (x := x2) rfl ?_; refine qt_iload_n (x := x3) rfl ?_; refine qt_iload (x := x4) rfl ?_; exact qt_z rfl rfl rfl rfl rfl) trivial ?_
  refine ps_callC (a := 0) (a' := 1) (As := [.int (x1), .int (x2), .int (x3), .int (x4)]) (id := 1) (st := [.int (0), .ref (116)]) kX11_would l_13_42 (by decide +kernel) (q_id_of rfl) rfl (Nat.le_of_ble_eq_true rfl) (s_mono h (s_I_of (fun v u h => ?_)) (fun E u h => ?_))
  · show ps_Ex (p_CW hL_would) (d + 1) 0 mL_would 12 [some (.ref 1), some (.int x1), some (.int x2), some (.int x3), some (.int x4), some (.ref 116), none] [.int v, .int 0, .ref 116] u Q (fun _ _ => False)
    refine ps_blk [(.i2l, 1, 0, 0), (.lastore, 1, 0, 0), (.goto 7, 3, 21, 0), (.iconst 0, 1, 0, 0)] 22 [some (.ref 1), some (.int x1), some (.int x2), some (.int x3), some (.int x4), some (.ref 116), none] [.int (0)] (q_wJ u 116 0 (Int32.toInt64 v)) [q_id 116 15 116, vp_in 0 (q_sh 116).2] (by decide +kernel) (by refine qt_i2l ?_; refine qt_jast ?_; refine qt_goto ?_; refine qt_iconst qc_0 ?_; exact qt_z rfl rfl rfl rfl rfl) ⟨(q_id_of rfl), (q_vin rfl)⟩ ?_
    exact ps_retI .int (by decide +kernel) rfl rfl h
  · obtain ⟨rfl, h⟩ := h
    refine ⟨[], ⟨0, 14, 17, 13⟩, [], "java/lang/IllegalArgumentException", 6, 2, fun G s m args c hΦ => ⟨hΦ.1, fun z hz => by cases hz⟩, by decide, by decide, p_CLw _ (by simp), by simp [q_CA], Or.inr ⟨rfl, by decide +kernel⟩, by decide, ?_⟩
    refine ps_blk [(.iconst 1, 1, 0, 0)] 20 (p_fg [some (.ref 1), some (.int x1), some (.int x2), some (.int x3), some (.int x4), some (.ref 116), none] 6) [.int (1)] u [] (by decide +kernel) (by refine qt_iconst qc_1 ?_; exact qt_z rfl rfl rfl rfl rfl) trivial ?_
    exact ps_retI .int (by decide +kernel) rfl rfl h
theorem eL_grows {d : Nat} {x1 : Int32} {w : q_Sm} {Q : s_Po} (h : s_EvI d 1 mX11_grows w [.ref (1), .int (x1)] (fun v u => Q (some (.int 0)) (q_wJ u 116 0 (Int32.toInt64 v))) (fun E u => (E = "java/util/NoSuchElementException" ∧ Q (some (.int 1)) u))) : ps_EvW (d + 1) 1 mL_grows hL_grows w [.ref (1), .int (x1), .ref (116)] Q := by
  refine ps_evW (by decide +kernel) rfl (Nat.le_of_ble_eq_true rfl) cL_grows_in ?_
  show ps_Ex (p_CW hL_grows) (d + 1) 1 mL_grows 0 [some (.ref 1), some (.int x1), some (.ref 116), none] [] w Q (fun _ _ => False)
  refine ps_blk [(.aload_n 2, 1, 0, 0), (.iconst 0, 1, 0, 0), (.aload_n 0, 1, 0, 0), (.iload_n 1, 1, 0, 0)] 4 [some (.ref 1), some (.int x1), some (.ref 116), none] [.int (x1), .ref (1), .int (0), .ref (116)] w [] (by decide +kernel) (by refine qt_aload_n (r := 116) rfl ?_; refine qt_iconst qc_0 ?_; refine qt_aload_n (r := 1) rfl ?_; refine qt_iload_n (x := x1) rfl ?_; exact qt_z rfl rfl rfl rfl rfl) trivial ?_
  refine ps_callC (a := 0) (a' := 1) (As := [.int (x1)]) (id := 1) (st := [.int (0), .ref (116)]) kX11_grows l_13_46 (by decide +kernel) (q_id_of rfl) rfl (Nat.le_of_ble_eq_true rfl) (s_mono h (s_I_of (fun v u h => ?_)) (fun E u h => ?_))
  · show ps_Ex (p_CW hL_grows) (d + 1) 0 mL_grows 7 [some (.ref 1), some (.int x1), some (.ref 116), none] [.int v, .int 0, .ref 116] u Q (fun _ _ => False)
    refine ps_blk [(.i2l, 1, 0, 0), (.lastore, 1, 0, 0), (.goto 6, 3, 15, 0), (.iconst 0, 1, 0, 0)] 16 [some (.ref 1), some (.int x1), some (.ref 116), none] [.int (0)] (q_wJ u 116 0 (Int32.toInt64 v)) [q_id 116 15 116, vp_in 0 (q_sh 116).2] (by decide +kernel) (by refine qt_i2l ?_; refine qt_jast ?_; refine qt_goto ?_; refine qt_iconst qc_0 ?_; exact qt_z rfl rfl rfl rfl rfl) ⟨(q_id_of rfl), (q_vin rfl)⟩ ?_
    exact ps_retI .int (by decide +kernel) rfl rfl h
  · obtain ⟨rfl, h⟩ := h
    refine ⟨[], ⟨0, 9, 12, 31⟩, [], "java/util/NoSuchElementException", 3, 1, fun G s m args c hΦ => ⟨hΦ.1, fun z hz => by cases hz⟩, by decide, by decide, p_CLw _ (by simp), by simp [q_CA], Or.inl ⟨3, rfl, rfl, by decide +kernel⟩, by decide, ?_⟩
    refine ps_blk [(.iconst 1, 1, 0, 0)] 14 (p_fg [some (.ref 1), some (.int x1), some (.ref 116), none] 3) [.int (1)] u [] (by decide +kernel) (by refine qt_iconst qc_1 ?_; exact qt_z rfl rfl rfl rfl rfl) trivial ?_
    exact ps_retI .int (by decide +kernel) rfl rfl h
theorem eL_best {d : Nat} {x1 : Int32} {w : q_Sm} {Q : s_Po} (h : s_EvI d 1 mX11_best w [.ref (1), .int (x1)] (fun v u => Q (some (.int 0)) (q_wJ u 116 0 (Int32.toInt64 v))) (fun E u => (E = "java/lang/IllegalArgumentException" ∧ Q (some (.int 1)) u))) : ps_EvW (d + 1) 1 mL_best hL_best w [.ref (1), .int (x1), .ref (116)] Q := by
  refine ps_evW (by decide +kernel) rfl (Nat.le_of_ble_eq_true rfl) cL_best_in ?_
  show ps_Ex (p_CW hL_best) (d + 1) 1 mL_best 0 [some (.ref 1), some (.int x1), some (.ref 116), none] [] w Q (fun _ _ => False)
  refine ps_blk [(.aload_n 2, 1, 0, 0), (.iconst 0, 1, 0, 0), (.aload_n 0, 1, 0, 0), (.iload_n 1, 1, 0, 0)] 4 [some (.ref 1), some (.int x1), some (.ref 116), none] [.int (x1), .ref (1), .int (0), .ref (116)] w [] (by decide +kernel) (by refine qt_aload_n (r := 116) rfl ?_; refine qt_iconst qc_0 ?_; refine qt_aload_n (r := 1) rfl ?_; refine qt_iload_n (x := x1) rfl ?_; exact qt_z rfl rfl rfl rfl rfl) trivial ?_
  refine ps_callC (a := 0) (a' := 1) (As := [.int (x1)]) (id := 1) (st := [.int (0), .ref (116)]) kX11_best l_13_49 (by decide +kernel) (q_id_of rfl) rfl (Nat.le_of_ble_eq_true rfl) (s_mono h (s_I_of (fun v u h => ?_)) (fun E u h => ?_))
  · show ps_Ex (p_CW hL_best) (d + 1) 0 mL_best 7 [some (.ref 1), some (.int x1), some (.ref 116), none] [.int v, .int 0, .ref 116] u Q (fun _ _ => False)
    refine ps_blk [(.i2l, 1, 0, 0), (.lastore, 1, 0, 0), (.goto 6, 3, 15, 0), (.iconst 0, 1, 0, 0)] 16 [some (.ref 1), some (.int x1), some (.ref 116), none] [.int (0)] (q_wJ u 116 0 (Int32.toInt64 v)) [q_id 116 15 116, vp_in 0 (q_sh 116).2] (by decide +kernel) (by refine qt_i2l ?_; refine qt_jast ?_; refine qt_goto ?_; refine qt_iconst qc_0 ?_; exact qt_z rfl rfl rfl rfl rfl) ⟨(q_id_of rfl), (q_vin rfl)⟩ ?_
    exact ps_retI .int (by decide +kernel) rfl rfl h
  · obtain ⟨rfl, h⟩ := h
    refine ⟨[], ⟨0, 9, 12, 13⟩, [], "java/lang/IllegalArgumentException", 3, 1, fun G s m args c hΦ => ⟨hΦ.1, fun z hz => by cases hz⟩, by decide, by decide, p_CLw _ (by simp), by simp [q_CA], Or.inl ⟨3, rfl, rfl, by decide +kernel⟩, by decide, ?_⟩
    refine ps_blk [(.iconst 1, 1, 0, 0)] 14 (p_fg [some (.ref 1), some (.int x1), some (.ref 116), none] 3) [.int (1)] u [] (by decide +kernel) (by refine qt_iconst qc_1 ?_; exact qt_z rfl rfl rfl rfl rfl) trivial ?_
    exact ps_retI .int (by decide +kernel) rfl rfl h
theorem eL_left {d : Nat} {x1 : Int32} {w : q_Sm} {Q : s_Po} (h : s_EvI d 1 mX11_left w [.ref (1), .int (x1)] (fun v u => Q (some (.int 0)) (q_wJ u 116 0 (Int32.toInt64 v))) (fun E u => (E = "java/lang/IllegalArgumentException" ∧ Q (some (.int 1)) u))) : ps_EvW (d + 1) 1 mL_left hL_left w [.ref (1), .int (x1), .ref (116)] Q := by
  refine ps_evW (by decide +kernel) rfl (Nat.le_of_ble_eq_true rfl) cL_left_in ?_
  show ps_Ex (p_CW hL_left) (d + 1) 1 mL_left 0 [some (.ref 1), some (.int x1), some (.ref 116), none] [] w Q (fun _ _ => False)
  refine ps_blk [(.aload_n 2, 1, 0, 0), (.iconst 0, 1, 0, 0), (.aload_n 0, 1, 0, 0), (.iload_n 1, 1, 0, 0)] 4 [some (.ref 1), some (.int x1), some (.ref 116), none] [.int (x1), .ref (1), .int (0), .ref (116)] w [] (by decide +kernel) (by refine qt_aload_n (r := 116) rfl ?_; refine qt_iconst qc_0 ?_; refine qt_aload_n (r := 1) rfl ?_; refine qt_iload_n (x := x1) rfl ?_; exact qt_z rfl rfl rfl rfl rfl) trivial ?_
  refine ps_callC (a := 0) (a' := 1) (As := [.int (x1)]) (id := 1) (st := [.int (0), .ref (116)]) kX11_left l_13_52 (by decide +kernel) (q_id_of rfl) rfl (Nat.le_of_ble_eq_true rfl) (s_mono h (s_I_of (fun v u h => ?_)) (fun E u h => ?_))
  · show ps_Ex (p_CW hL_left) (d + 1) 0 mL_left 7 [some (.ref 1), some (.int x1), some (.ref 116), none] [.int v, .int 0, .ref 116] u Q (fun _ _ => False)
    refine ps_blk [(.i2l, 1, 0, 0), (.lastore, 1, 0, 0), (.goto 6, 3, 15, 0), (.iconst 0, 1, 0, 0)] 16 [some (.ref 1), some (.int x1), some (.ref 116), none] [.int (0)] (q_wJ u 116 0 (Int32.toInt64 v)) [q_id 116 15 116, vp_in 0 (q_sh 116).2] (by decide +kernel) (by refine qt_i2l ?_; refine qt_jast ?_; refine qt_goto ?_; refine qt_iconst qc_0 ?_; exact qt_z rfl rfl rfl rfl rfl) ⟨(q_id_of rfl), (q_vin rfl)⟩ ?_
    exact ps_retI .int (by decide +kernel) rfl rfl h
  · obtain ⟨rfl, h⟩ := h
    refine ⟨[], ⟨0, 9, 12, 13⟩, [], "java/lang/IllegalArgumentException", 3, 1, fun G s m args c hΦ => ⟨hΦ.1, fun z hz => by cases hz⟩, by decide, by decide, p_CLw _ (by simp), by simp [q_CA], Or.inl ⟨3, rfl, rfl, by decide +kernel⟩, by decide, ?_⟩
    refine ps_blk [(.iconst 1, 1, 0, 0)] 14 (p_fg [some (.ref 1), some (.int x1), some (.ref 116), none] 3) [.int (1)] u [] (by decide +kernel) (by refine qt_iconst qc_1 ?_; exact qt_z rfl rfl rfl rfl rfl) trivial ?_
    exact ps_retI .int (by decide +kernel) rfl rfl h
theorem eL_delay {d : Nat} {x1 : Int32} {x2 : Int32} {w : q_Sm} {Q : s_Po} (h : s_EvI d 2 mX11_delay w [.ref (1), .int (x1), .int (x2)] (fun v u => Q (some (.int 0)) (q_wJ u 116 0 (Int32.toInt64 v))) (fun E u => (E = "java/util/NoSuchElementException" ∧ Q (some (.int 1)) u) ∨ (E = "java/lang/IllegalArgumentException" ∧ Q (some (.int 2)) u))) : ps_EvW (d + 1) 2 mL_delay hL_delay w [.ref (1), .int (x1), .int (x2), .ref (116)] Q := by
  refine ps_evW (by decide +kernel) rfl (Nat.le_of_ble_eq_true rfl) cL_delay_in ?_
  show ps_Ex (p_CW hL_delay) (d + 1) 2 mL_delay 0 [some (.ref 1), some (.int x1), some (.int x2), some (.ref 116), none] [] w Q (fun _ _ => False)
  refine ps_blk [(.aload_n 3, 1, 0, 0), (.iconst 0, 1, 0, 0), (.aload_n 0, 1, 0, 0), (.iload_n 1, 1, 0, 0), (.iload_n 2, 1, 0, 0)] 5 [some (.ref 1), some (.int x1), some (.int x2), some (.ref 116), none] [.int (x2), .int (x1), .ref (1), .int (0), .ref (116)] w [] (by decide +kernel) (by refine qt_aload_n (r := 116) rfl ?_; refine qt_iconst qc_0 ?_; refine qt_aload_n (r := 1) rfl ?_; refine qt_iload_n (x := x1) rfl ?_; refine qt_iload_n (x := x2) rfl ?_; exact qt_z rfl rfl rfl rfl rfl) trivial ?_
  refine ps_callC (a := 0) (a' := 2) (As := [.int (x1), .int (x2)]) (id := 1) (st := [.int (0), .ref (116)]) kX11_delay l_13_55 (by decide +kernel) (q_id_of rfl) rfl (Nat.le_of_ble_eq_true rfl) (s_mono h (s_I_of (fun v u h => ?_)) (fun E u h => ?_))
  · show ps_Ex (p_CW hL_delay) (d + 1) 0 mL_delay 8 [some (.ref 1), some (.int x1), some (.int x2), some (.ref 116), none] [.int v, .int 0, .ref 116] u Q (fun _ _ => False)
    refine ps_blk [(.i2l, 1, 0, 0), (.lastore, 1, 0, 0), (.goto 11, 3, 21, 0), (.iconst 0, 1, 0, 0)] 22 [some (.ref 1), some (.int x1), some (.int x2), some (.ref 116), none] [.int (0)] (q_wJ u 116 0 (Int32.toInt64 v)) [q_id 116 15 116, vp_in 0 (q_sh 116).2] (by decide +kernel) (by refine qt_i2l ?_; refine qt_jast ?_; refine qt_goto ?_; refine qt_iconst qc_0 ?_; exact qt_z rfl rfl rfl rfl rfl) ⟨(q_id_of rfl), (q_vin rfl)⟩ ?_
    exact ps_retI .int (by decide +kernel) rfl rfl h
  · rcases h with ⟨rfl, h⟩ | ⟨rfl, h⟩
    · refine ⟨[], ⟨0, 10, 13, 31⟩, [⟨0, 10, 17, 13⟩], "java/util/NoSuchElementException", 4, 2, fun G s m args c hΦ => ⟨hΦ.1, fun z hz => by cases hz⟩, by decide, by decide, p_CLw _ (by simp), by simp [q_CA], Or.inr ⟨rfl, by decide +kernel⟩, by decide, ?_⟩
      refine ps_blk [(.iconst 1, 1, 0, 0)] 16 (p_fg [some (.ref 1), some (.int x1), some (.int x2), some (.ref 116), none] 4) [.int (1)] u [] (by decide +kernel) (by refine qt_iconst qc_1 ?_; exact qt_z rfl rfl rfl rfl rfl) trivial ?_
      exact ps_retI .int (by decide +kernel) rfl rfl h
    · refine ⟨[⟨0, 10, 13, 31⟩], ⟨0, 10, 17, 13⟩, [], "java/lang/IllegalArgumentException", 4, 2, fun G s m args c hΦ => ⟨hΦ.1, fun z hz => by rw [List.mem_singleton.mp hz]; exact Or.inr ⟨by decide, "java/util/NoSuchElementException", p_CLw _ (by simp), hΦ.2⟩⟩, by decide, by decide, p_CLw _ (by simp), by simp [q_CA], Or.inr ⟨rfl, by decide +kernel⟩, by decide, ?_⟩
      refine ps_blk [(.iconst 2, 1, 0, 0)] 20 (p_fg [some (.ref 1), some (.int x1), some (.int x2), some (.ref 116), none] 4) [.int (2)] u [] (by decide +kernel) (by refine qt_iconst qc_2 ?_; exact qt_z rfl rfl rfl rfl rfl) trivial ?_
      exact ps_retI .int (by decide +kernel) rfl rfl h
theorem eL_weds {d : Nat} {x1 : Int32} {w : q_Sm} {Q : s_Po} (h : s_EvI d 1 mX11_weds w [.ref (1), .int (x1)] (fun v u => Q (some (.int 0)) (q_wJ u 116 0 (Int32.toInt64 v))) (fun E u => (E = "java/util/NoSuchElementException" ∧ Q (some (.int 1)) u))) : ps_EvW (d + 1) 1 mL_weds hL_weds w [.ref (1), .int (x1), .ref (116)] Q := by
  refine ps_evW (by decide +kernel) rfl (Nat.le_of_ble_eq_true rfl) cL_weds_in ?_
  show ps_Ex (p_CW hL_weds) (d + 1) 1 mL_weds 0 [some (.ref 1), some (.int x1), some (.ref 116), none] [] w Q (fun _ _ => False)
  refine ps_blk [(.aload_n 2, 1, 0, 0), (.iconst 0, 1, 0, 0), (.aload_n 0, 1, 0, 0), (.iload_n 1, 1, 0, 0)] 4 [some (.ref 1), some (.int x1), some (.ref 116), none] [.int (x1), .ref (1), .int (0), .ref (116)] w [] (by decide +kernel) (by refine qt_aload_n (r := 116) rfl ?_; refine qt_iconst qc_0 ?_; refine qt_aload_n (r := 1) rfl ?_; refine qt_iload_n (x := x1) rfl ?_; exact qt_z rfl rfl rfl rfl rfl) trivial ?_
  refine ps_callC (a := 0) (a' := 1) (As := [.int (x1)]) (id := 1) (st := [.int (0), .ref (116)]) kX11_weds l_13_58 (by decide +kernel) (q_id_of rfl) rfl (Nat.le_of_ble_eq_true rfl) (s_mono h (s_I_of (fun v u h => ?_)) (fun E u h => ?_))
  · show ps_Ex (p_CW hL_weds) (d + 1) 0 mL_weds 7 [some (.ref 1), some (.int x1), some (.ref 116), none] [.int v, .int 0, .ref 116] u Q (fun _ _ => False)
    refine ps_blk [(.i2l, 1, 0, 0), (.lastore, 1, 0, 0), (.goto 6, 3, 15, 0), (.iconst 0, 1, 0, 0)] 16 [some (.ref 1), some (.int x1), some (.ref 116), none] [.int (0)] (q_wJ u 116 0 (Int32.toInt64 v)) [q_id 116 15 116, vp_in 0 (q_sh 116).2] (by decide +kernel) (by refine qt_i2l ?_; refine qt_jast ?_; refine qt_goto ?_; refine qt_iconst qc_0 ?_; exact qt_z rfl rfl rfl rfl rfl) ⟨(q_id_of rfl), (q_vin rfl)⟩ ?_
    exact ps_retI .int (by decide +kernel) rfl rfl h
  · obtain ⟨rfl, h⟩ := h
    refine ⟨[], ⟨0, 9, 12, 31⟩, [], "java/util/NoSuchElementException", 3, 1, fun G s m args c hΦ => ⟨hΦ.1, fun z hz => by cases hz⟩, by decide, by decide, p_CLw _ (by simp), by simp [q_CA], Or.inl ⟨3, rfl, rfl, by decide +kernel⟩, by decide, ?_⟩
    refine ps_blk [(.iconst 1, 1, 0, 0)] 14 (p_fg [some (.ref 1), some (.int x1), some (.ref 116), none] 3) [.int (1)] u [] (by decide +kernel) (by refine qt_iconst qc_1 ?_; exact qt_z rfl rfl rfl rfl rfl) trivial ?_
    exact ps_retI .int (by decide +kernel) rfl rfl h
theorem eL_choices {d : Nat} {x1 : Int32} {w : q_Sm} {Q : s_Po} (h : s_EvI d 1 mX11_choices w [.ref (1), .int (x1)] (fun v u => Q (some (.int 0)) (q_wJ u 116 0 (Int32.toInt64 v))) (fun E u => (E = "java/util/NoSuchElementException" ∧ Q (some (.int 1)) u))) : ps_EvW (d + 1) 1 mL_choices hL_choices w [.ref (1), .int (x1), .ref (116)] Q := by
  refine ps_evW (by decide +kernel) rfl (Nat.le_of_ble_eq_true rfl) cL_choices_in ?_
  show ps_Ex (p_CW hL_choices) (d + 1) 1 mL_choices 0 [some (.ref 1), some (.int x1), some (.ref 116), none] [] w Q (fun _ _ => False)
  refine ps_blk [(.aload_n 2, 1, 0, 0), (.iconst 0, 1, 0, 0), (.aload_n 0, 1, 0, 0), (.iload_n 1, 1, 0, 0)] 4 [some (.ref 1), some (.int x1), some (.ref 116), none] [.int (x1), .ref (1), .int (0), .ref (116)] w [] (by decide +kernel) (by refine qt_aload_n (r := 116) rfl ?_; refine qt_iconst qc_0 ?_; refine qt_aload_n (r := 1) rfl ?_; refine qt_iload_n (x := x1) rfl ?_; exact qt_z rfl rfl rfl rfl rfl) trivial ?_
  refine ps_callC (a := 0) (a' := 1) (As := [.int (x1)]) (id := 1) (st := [.int (0), .ref (116)]) kX11_choices l_13_61 (by decide +kernel) (q_id_of rfl) rfl (Nat.le_of_ble_eq_true rfl) (s_mono h (s_I_of (fun v u h => ?_)) (fun E u h => ?_))
  · show ps_Ex (p_CW hL_choices) (d + 1) 0 mL_choices 7 [some (.ref 1), some (.int x1), some (.ref 116), none] [.int v, .int 0, .ref 116] u Q (fun _ _ => False)
    refine ps_blk [(.i2l, 1, 0, 0), (.lastore, 1, 0, 0), (.goto 6, 3, 15, 0), (.iconst 0, 1, 0, 0)] 16 [some (.ref 1), some (.int x1), some (.ref 116), none] [.int (0)] (q_wJ u 116 0 (Int32.toInt64 v)) [q_id 116 15 116, vp_in 0 (q_sh 116).2] (by decide +kernel) (by refine qt_i2l ?_; refine qt_jast ?_; refine qt_goto ?_; refine qt_iconst qc_0 ?_; exact qt_z rfl rfl rfl rfl rfl) ⟨(q_id_of rfl), (q_vin rfl)⟩ ?_
    exact ps_retI .int (by decide +kernel) rfl rfl h
  · obtain ⟨rfl, h⟩ := h
    refine ⟨[], ⟨0, 9, 12, 31⟩, [], "java/util/NoSuchElementException", 3, 1, fun G s m args c hΦ => ⟨hΦ.1, fun z hz => by cases hz⟩, by decide, by decide, p_CLw _ (by simp), by simp [q_CA], Or.inl ⟨3, rfl, rfl, by decide +kernel⟩, by decide, ?_⟩
    refine ps_blk [(.iconst 1, 1, 0, 0)] 14 (p_fg [some (.ref 1), some (.int x1), some (.ref 116), none] 3) [.int (1)] u [] (by decide +kernel) (by refine qt_iconst qc_1 ?_; exact qt_z rfl rfl rfl rfl rfl) trivial ?_
    exact ps_retI .int (by decide +kernel) rfl rfl h
theorem eL_sees {d : Nat} {x1 : Int32} {w : q_Sm} {Q : s_Po} (h : s_EvI d 1 mX11_sees w [.ref (1), .int (x1)] (fun v u => (v = 0 → Q (some (.int 0)) (q_wJ u 116 0 0)) ∧ (¬ v = 0 → Q (some (.int 0)) (q_wJ u 116 0 1))) (fun E u => (E = "java/util/NoSuchElementException" ∧ Q (some (.int 1)) u))) : ps_EvW (d + 1) 1 mL_sees hL_sees w [.ref (1), .int (x1), .ref (116)] Q := by
  refine ps_evW (by decide +kernel) rfl (Nat.le_of_ble_eq_true rfl) cL_sees_in ?_
  show ps_Ex (p_CW hL_sees) (d + 1) 1 mL_sees 0 [some (.ref 1), some (.int x1), some (.ref 116), none] [] w Q (fun _ _ => False)
  refine ps_blk [(.aload_n 2, 1, 0, 0), (.iconst 0, 1, 0, 0), (.aload_n 0, 1, 0, 0), (.iload_n 1, 1, 0, 0)] 4 [some (.ref 1), some (.int x1), some (.ref 116), none] [.int (x1), .ref (1), .int (0), .ref (116)] w [] (by decide +kernel) (by refine qt_aload_n (r := 116) rfl ?_; refine qt_iconst qc_0 ?_; refine qt_aload_n (r := 1) rfl ?_; refine qt_iload_n (x := x1) rfl ?_; exact qt_z rfl rfl rfl rfl rfl) trivial ?_
  refine ps_callC (a := 0) (a' := 1) (As := [.int (x1)]) (id := 1) (st := [.int (0), .ref (116)]) kX11_sees l_13_64 (by decide +kernel) (q_id_of rfl) rfl (Nat.le_of_ble_eq_true rfl) (s_mono h (s_I_of (fun v u h => ?_)) (fun E u h => ?_))
  · show ps_Ex (p_CW hL_sees) (d + 1) 0 mL_sees 7 [some (.ref 1), some (.int x1), some (.ref 116), none] [.int v, .int 0, .ref 116] u Q (fun _ _ => False)
    refine ps_if (cd := .eq) (off := 7) 14 (by decide +kernel) (by decide) (fun hc => ?_) (fun hc => ?_)
    · replace h := h.1 hc
      refine ps_blk [(.lconst 0, 1, 0, 0), (.lastore, 1, 0, 0), (.goto 6, 3, 22, 0), (.iconst 0, 1, 0, 0)] 23 [some (.ref 1), some (.int x1), some (.ref 116), none] [.int (0)] (q_wJ u 116 0 (0)) [q_id 116 15 116, vp_in 0 (q_sh 116).2] (by decide +kernel) (by refine qt_lconst (vl := 0) (by decide) ?_; refine qt_jast ?_; refine qt_goto ?_; refine qt_iconst qc_0 ?_; exact qt_z rfl rfl rfl rfl rfl) ⟨(q_id_of rfl), (q_vin rfl)⟩ ?_
      exact ps_retI .int (by decide +kernel) rfl rfl h
    · replace h := h.2 hc
      refine ps_blk [(.lconst 1, 1, 0, 0), (.goto 4, 3, 15, 0), (.lastore, 1, 0, 0), (.goto 6, 3, 22, 0), (.iconst 0, 1, 0, 0)] 23 [some (.ref 1), some (.int x1), some (.ref 116), none] [.int (0)] (q_wJ u 116 0 (1)) [q_id 116 15 116, vp_in 0 (q_sh 116).2] (by decide +kernel) (by refine qt_lconst (vl := 1) (by decide) ?_; refine qt_goto ?_; refine qt_jast ?_; refine qt_goto ?_; refine qt_iconst qc_0 ?_; exact qt_z rfl rfl rfl rfl rfl) ⟨(q_id_of rfl), (q_vin rfl)⟩ ?_
      exact ps_retI .int (by decide +kernel) rfl rfl h
  · obtain ⟨rfl, h⟩ := h
    refine ⟨[], ⟨0, 16, 19, 31⟩, [], "java/util/NoSuchElementException", 3, 1, fun G s m args c hΦ => ⟨hΦ.1, fun z hz => by cases hz⟩, by decide, by decide, p_CLw _ (by simp), by simp [q_CA], Or.inl ⟨3, rfl, rfl, by decide +kernel⟩, by decide, ?_⟩
    refine ps_blk [(.iconst 1, 1, 0, 0)] 21 (p_fg [some (.ref 1), some (.int x1), some (.ref 116), none] 3) [.int (1)] u [] (by decide +kernel) (by refine qt_iconst qc_1 ?_; exact qt_z rfl rfl rfl rfl rfl) trivial ?_
    exact ps_retI .int (by decide +kernel) rfl rfl h
theorem eL_eyes {d : Nat} {x1 : Int32} {w : q_Sm} {Q : s_Po} (h : s_EvI d 1 mX11_eyes w [.ref (1), .int (x1)] (fun v u => Q (some (.int 0)) (q_wJ u 116 0 (Int32.toInt64 v))) (fun E u => (E = "java/lang/IllegalArgumentException" ∧ Q (some (.int 1)) u))) : ps_EvW (d + 1) 1 mL_eyes hL_eyes w [.ref (1), .int (x1), .ref (116)] Q := by
  refine ps_evW (by decide +kernel) rfl (Nat.le_of_ble_eq_true rfl) cL_eyes_in ?_
  show ps_Ex (p_CW hL_eyes) (d + 1) 1 mL_eyes 0 [some (.ref 1), some (.int x1), some (.ref 116), none] [] w Q (fun _ _ => False)
  refine ps_blk [(.aload_n 2, 1, 0, 0), (.iconst 0, 1, 0, 0), (.aload_n 0, 1, 0, 0), (.iload_n 1, 1, 0, 0)] 4 [some (.ref 1), some (.int x1), some (.ref 116), none] [.int (x1), .ref (1), .int (0), .ref (116)] w [] (by decide +kernel) (by refine qt_aload_n (r := 116) rfl ?_; refine qt_iconst qc_0 ?_; refine qt_aload_n (r := 1) rfl ?_; refine qt_iload_n (x := x1) rfl ?_; exact qt_z rfl rfl rfl rfl rfl) trivial ?_
  refine ps_callC (a := 0) (a' := 1) (As := [.int (x1)]) (id := 1) (st := [.int (0), .ref (116)]) kX11_eyes l_13_68 (by decide +kernel) (q_id_of rfl) rfl (Nat.le_of_ble_eq_true rfl) (s_mono h (s_I_of (fun v u h => ?_)) (fun E u h => ?_))
  · show ps_Ex (p_CW hL_eyes) (d + 1) 0 mL_eyes 7 [some (.ref 1), some (.int x1), some (.ref 116), none] [.int v, .int 0, .ref 116] u Q (fun _ _ => False)
    refine ps_blk [(.i2l, 1, 0, 0), (.lastore, 1, 0, 0), (.goto 6, 3, 15, 0), (.iconst 0, 1, 0, 0)] 16 [some (.ref 1), some (.int x1), some (.ref 116), none] [.int (0)] (q_wJ u 116 0 (Int32.toInt64 v)) [q_id 116 15 116, vp_in 0 (q_sh 116).2] (by decide +kernel) (by refine qt_i2l ?_; refine qt_jast ?_; refine qt_goto ?_; refine qt_iconst qc_0 ?_; exact qt_z rfl rfl rfl rfl rfl) ⟨(q_id_of rfl), (q_vin rfl)⟩ ?_
    exact ps_retI .int (by decide +kernel) rfl rfl h
  · obtain ⟨rfl, h⟩ := h
    refine ⟨[], ⟨0, 9, 12, 13⟩, [], "java/lang/IllegalArgumentException", 3, 1, fun G s m args c hΦ => ⟨hΦ.1, fun z hz => by cases hz⟩, by decide, by decide, p_CLw _ (by simp), by simp [q_CA], Or.inl ⟨3, rfl, rfl, by decide +kernel⟩, by decide, ?_⟩
    refine ps_blk [(.iconst 1, 1, 0, 0)] 14 (p_fg [some (.ref 1), some (.int x1), some (.ref 116), none] 3) [.int (1)] u [] (by decide +kernel) (by refine qt_iconst qc_1 ?_; exact qt_z rfl rfl rfl rfl rfl) trivial ?_
    exact ps_retI .int (by decide +kernel) rfl rfl h
theorem eL_chairs {d : Nat} {x1 : Int32} {x2 : Int32} {w : q_Sm} {Q : s_Po} (h : s_EvI d 1 mX11_chairs w [.ref (1), .int (x1), .int (x2)] (fun v u => Q (some (.int 0)) (q_wJ u 116 0 (Int32.toInt64 v))) (fun E u => (E = "java/lang/IllegalArgumentException" ∧ Q (some (.int 1)) u))) : ps_EvW (d + 1) 1 mL_chairs hL_chairs w [.ref (1), .int (x1), .int (x2), .ref (116)] Q := by
  refine ps_evW (by decide +kernel) rfl (Nat.le_of_ble_eq_true rfl) cL_chairs_in ?_
  show ps_Ex (p_CW hL_chairs) (d + 1) 1 mL_chairs 0 [some (.ref 1), some (.int x1), some (.int x2), some (.ref 116), none] [] w Q (fun _ _ => False)
  refine ps_blk [(.aload_n 3, 1, 0, 0), (.iconst 0, 1, 0, 0), (.aload_n 0, 1, 0, 0), (.iload_n 1, 1, 0, 0), (.iload_n 2, 1, 0, 0)] 5 [some (.ref 1), some (.int x1), some (.int x2), some (.ref 116), none] [.int (x2), .int (x1), .ref (1), .int (0), .ref (116)] w [] (by decide +kernel) (by refine qt_aload_n (r := 116) rfl ?_; refine qt_iconst qc_0 ?_; refine qt_aload_n (r := 1) rfl ?_; refine qt_iload_n (x := x1) rfl ?_; refine qt_iload_n (x := x2) rfl ?_; exact qt_z rfl rfl rfl rfl rfl) trivial ?_
  refine ps_callC (a := 0) (a' := 1) (As := [.int (x1), .int (x2)]) (id := 1) (st := [.int (0), .ref (116)]) kX11_chairs l_13_71 (by decide +kernel) (q_id_of rfl) rfl (Nat.le_of_ble_eq_true rfl) (s_mono h (s_I_of (fun v u h => ?_)) (fun E u h => ?_))
  · show ps_Ex (p_CW hL_chairs) (d + 1) 0 mL_chairs 8 [some (.ref 1), some (.int x1), some (.int x2), some (.ref 116), none] [.int v, .int 0, .ref 116] u Q (fun _ _ => False)
    refine ps_blk [(.i2l, 1, 0, 0), (.lastore, 1, 0, 0), (.goto 7, 3, 17, 0), (.iconst 0, 1, 0, 0)] 18 [some (.ref 1), some (.int x1), some (.int x2), some (.ref 116), none] [.int (0)] (q_wJ u 116 0 (Int32.toInt64 v)) [q_id 116 15 116, vp_in 0 (q_sh 116).2] (by decide +kernel) (by refine qt_i2l ?_; refine qt_jast ?_; refine qt_goto ?_; refine qt_iconst qc_0 ?_; exact qt_z rfl rfl rfl rfl rfl) ⟨(q_id_of rfl), (q_vin rfl)⟩ ?_
    exact ps_retI .int (by decide +kernel) rfl rfl h
  · obtain ⟨rfl, h⟩ := h
    refine ⟨[], ⟨0, 10, 13, 13⟩, [], "java/lang/IllegalArgumentException", 4, 2, fun G s m args c hΦ => ⟨hΦ.1, fun z hz => by cases hz⟩, by decide, by decide, p_CLw _ (by simp), by simp [q_CA], Or.inr ⟨rfl, by decide +kernel⟩, by decide, ?_⟩
    refine ps_blk [(.iconst 1, 1, 0, 0)] 16 (p_fg [some (.ref 1), some (.int x1), some (.int x2), some (.ref 116), none] 4) [.int (1)] u [] (by decide +kernel) (by refine qt_iconst qc_1 ?_; exact qt_z rfl rfl rfl rfl rfl) trivial ?_
    exact ps_retI .int (by decide +kernel) rfl rfl h
theorem eL_gets {d : Nat} {x1 : Int32} {x2 : Int32} {x3 : Int32} {x4 : Int32} {w : q_Sm} {Q : s_Po} (h : s_EvI d 2 mX11_gets w [.ref (1), .int (x1), .int (x2), .int (x3), .int (x4)] (fun v u => Q (some (.int 0)) (q_wJ u 116 0 (Int32.toInt64 v))) (fun E u => (E = "java/util/NoSuchElementException" ∧ Q (some (.int 1)) u) ∨ (E = "java/lang/IllegalArgumentException" ∧ Q (some (.int 2)) u))) : ps_EvW (d + 1) 2 mL_gets hL_gets w [.ref (1), .int (x1), .int (x2), .int (x3), .int (x4), .ref (116)] Q := by
  refine ps_evW (by decide +kernel) rfl (Nat.le_of_ble_eq_true rfl) cL_gets_in ?_
  show ps_Ex (p_CW hL_gets) (d + 1) 2 mL_gets 0 [some (.ref 1), some (.int x1), some (.int x2), some (.int x3), some (.int x4), some (.ref 116), none] [] w Q (fun _ _ => False)
  refine ps_blk [(.aload 5, 2, 0, 0), (.iconst 0, 1, 0, 0), (.aload_n 0, 1, 0, 0), (.iload_n 1, 1, 0, 0), (.iload_n 2, 1, 0, 0), (.iload_n 3, 1, 0, 0), (.iload 4, 2, 0, 0)] 9 [some (.ref 1), some (.int x1), some (.int x2), some (.int x3), some (.int x4), some (.ref 116), none] [.int (x4), .int (x3), .int (x2), .int (x1), .ref (1), .int (0), .ref (116)] w [] (by decide +kernel) (by refine qt_aload (r := 116) rfl ?_; refine qt_iconst qc_0 ?_; refine qt_aload_n (r := 1) rfl ?_; refine qt_iload_n (x := x1) rfl ?_; refine qt_iload_n (x := x2) rfl ?_; refine qt_iload_n (x := x3) rfl ?_; refine qt_iload (x := x4) rfl ?_; exact qt_z rfl rfl rfl rfl rfl) trivial ?_
  refine ps_callC (a := 0) (a' := 2) (As := [.int (x1), .int (x2), .int (x3), .int (x4)]) (id := 1) (st := [.int (0), .ref (116)]) kX11_gets l_13_74 (by decide +kernel) (q_id_of rfl) rfl (Nat.le_of_ble_eq_true rfl) (s_mono h (s_I_of (fun v u h => ?_)) (fun E u h => ?_))
  · show ps_Ex (p_CW hL_gets) (d + 1) 0 mL_gets 12 [some (.ref 1), some (.int x1), some (.int x2), some (.int x3), some (.int x4), some (.ref 116), none] [.int v, .int 0, .ref 116] u Q (fun _ _ => False)
    refine ps_blk [(.i2l, 1, 0, 0), (.lastore, 1, 0, 0), (.goto 11, 3, 25, 0), (.iconst 0, 1, 0, 0)] 26 [some (.ref 1), some (.int x1), some (.int x2), some (.int x3), some (.int x4), some (.ref 116), none] [.int (0)] (q_wJ u 116 0 (Int32.toInt64 v)) [q_id 116 15 116, vp_in 0 (q_sh 116).2] (by decide +kernel) (by refine qt_i2l ?_; refine qt_jast ?_; refine qt_goto ?_; refine qt_iconst qc_0 ?_; exact qt_z rfl rfl rfl rfl rfl) ⟨(q_id_of rfl), (q_vin rfl)⟩ ?_
    exact ps_retI .int (by decide +kernel) rfl rfl h
  · rcases h with ⟨rfl, h⟩ | ⟨rfl, h⟩
    · refine ⟨[], ⟨0, 14, 17, 31⟩, [⟨0, 14, 21, 13⟩], "java/util/NoSuchElementException", 6, 2, fun G s m args c hΦ => ⟨hΦ.1, fun z hz => by cases hz⟩, by decide, by decide, p_CLw _ (by simp), by simp [q_CA], Or.inr ⟨rfl, by decide +kernel⟩, by decide, ?_⟩
      refine ps_blk [(.iconst 1, 1, 0, 0)] 20 (p_fg [some (.ref 1), some (.int x1), some (.int x2), some (.int x3), some (.int x4), some (.ref 116), none] 6) [.int (1)] u [] (by decide +kernel) (by refine qt_iconst qc_1 ?_; exact qt_z rfl rfl rfl rfl rfl) trivial ?_
      exact ps_retI .int (by decide +kernel) rfl rfl h
    · refine ⟨[⟨0, 14, 17, 31⟩], ⟨0, 14, 21, 13⟩, [], "java/lang/IllegalArgumentException", 6, 2, fun G s m args c hΦ => ⟨hΦ.1, fun z hz => by rw [List.mem_singleton.mp hz]; exact Or.inr ⟨by decide, "java/util/NoSuchElementException", p_CLw _ (by simp), hΦ.2⟩⟩, by decide, by decide, p_CLw _ (by simp), by simp [q_CA], Or.inr ⟨rfl, by decide +kernel⟩, by decide, ?_⟩
      refine ps_blk [(.iconst 2, 1, 0, 0)] 24 (p_fg [some (.ref 1), some (.int x1), some (.int x2), some (.int x3), some (.int x4), some (.ref 116), none] 6) [.int (2)] u [] (by decide +kernel) (by refine qt_iconst qc_2 ?_; exact qt_z rfl rfl rfl rfl rfl) trivial ?_
      exact ps_retI .int (by decide +kernel) rfl rfl h
theorem eL_owes {d : Nat} {x1 : Int32} {x2 : Int32} {w : q_Sm} {Q : s_Po} (h : s_EvI d 2 mX11_owes w [.ref (1), .int (x1), .int (x2)] (fun v u => Q (some (.int 0)) (q_wJ u 116 0 (Int32.toInt64 v))) (fun E u => (E = "java/util/NoSuchElementException" ∧ Q (some (.int 1)) u))) : ps_EvW (d + 1) 2 mL_owes hL_owes w [.ref (1), .int (x1), .int (x2), .ref (116)] Q := by
  refine ps_evW (by decide +kernel) rfl (Nat.le_of_ble_eq_true rfl) cL_owes_in ?_
  show ps_Ex (p_CW hL_owes) (d + 1) 2 mL_owes 0 [some (.ref 1), some (.int x1), some (.int x2), some (.ref 116), none] [] w Q (fun _ _ => False)
  refine ps_blk [(.aload_n 3, 1, 0, 0), (.iconst 0, 1, 0, 0), (.aload_n 0, 1, 0, 0), (.iload_n 1, 1, 0, 0), (.iload_n 2, 1, 0, 0)] 5 [some (.ref 1), some (.int x1), some (.int x2), some (.ref 116), none] [.int (x2), .int (x1), .ref (1), .int (0), .ref (116)] w [] (by decide +kernel) (by refine qt_aload_n (r := 116) rfl ?_; refine qt_iconst qc_0 ?_; refine qt_aload_n (r := 1) rfl ?_; refine qt_iload_n (x := x1) rfl ?_; refine qt_iload_n (x := x2) rfl ?_; exact qt_z rfl rfl rfl rfl rfl) trivial ?_
  refine ps_callC (a := 0) (a' := 2) (As := [.int (x1), .int (x2)]) (id := 1) (st := [.int (0), .ref (116)]) kX11_owes l_13_77 (by decide +kernel) (q_id_of rfl) rfl (Nat.le_of_ble_eq_true rfl) (s_mono h (s_I_of (fun v u h => ?_)) (fun E u h => ?_))
  · show ps_Ex (p_CW hL_owes) (d + 1) 0 mL_owes 8 [some (.ref 1), some (.int x1), some (.int x2), some (.ref 116), none] [.int v, .int 0, .ref 116] u Q (fun _ _ => False)
    refine ps_blk [(.i2l, 1, 0, 0), (.lastore, 1, 0, 0), (.goto 7, 3, 17, 0), (.iconst 0, 1, 0, 0)] 18 [some (.ref 1), some (.int x1), some (.int x2), some (.ref 116), none] [.int (0)] (q_wJ u 116 0 (Int32.toInt64 v)) [q_id 116 15 116, vp_in 0 (q_sh 116).2] (by decide +kernel) (by refine qt_i2l ?_; refine qt_jast ?_; refine qt_goto ?_; refine qt_iconst qc_0 ?_; exact qt_z rfl rfl rfl rfl rfl) ⟨(q_id_of rfl), (q_vin rfl)⟩ ?_
    exact ps_retI .int (by decide +kernel) rfl rfl h
  · obtain ⟨rfl, h⟩ := h
    refine ⟨[], ⟨0, 10, 13, 31⟩, [], "java/util/NoSuchElementException", 4, 2, fun G s m args c hΦ => ⟨hΦ.1, fun z hz => by cases hz⟩, by decide, by decide, p_CLw _ (by simp), by simp [q_CA], Or.inr ⟨rfl, by decide +kernel⟩, by decide, ?_⟩
    refine ps_blk [(.iconst 1, 1, 0, 0)] 16 (p_fg [some (.ref 1), some (.int x1), some (.int x2), some (.ref 116), none] 4) [.int (1)] u [] (by decide +kernel) (by refine qt_iconst qc_1 ?_; exact qt_z rfl rfl rfl rfl rfl) trivial ?_
    exact ps_retI .int (by decide +kernel) rfl rfl h
theorem eL_net {d : Nat} {x1 : Int32} {w : q_Sm} {Q : s_Po} (h : s_EvI d 1 mX11_net w [.ref (1), .int (x1)] (fun v u => Q (some (.int 0)) (q_wJ u 116 0 (Int32.toInt64 v))) (fun E u => (E = "java/util/NoSuchElementException" ∧ Q (some (.int 1)) u))) : ps_EvW (d + 1) 1 mL_net hL_net w [.ref (1), .int (x1), .ref (116)] Q := by
  refine ps_evW (by decide +kernel) rfl (Nat.le_of_ble_eq_true rfl) cL_net_in ?_
  show ps_Ex (p_CW hL_net) (d + 1) 1 mL_net 0 [some (.ref 1), some (.int x1), some (.ref 116), none] [] w Q (fun _ _ => False)
  refine ps_blk [(.aload_n 2, 1, 0, 0), (.iconst 0, 1, 0, 0), (.aload_n 0, 1, 0, 0), (.iload_n 1, 1, 0, 0)] 4 [some (.ref 1), some (.int x1), some (.ref 116), none] [.int (x1), .ref (1), .int (0), .ref (116)] w [] (by decide +kernel) (by refine qt_aload_n (r := 116) rfl ?_; refine qt_iconst qc_0 ?_; refine qt_aload_n (r := 1) rfl ?_; refine qt_iload_n (x := x1) rfl ?_; exact qt_z rfl rfl rfl rfl rfl) trivial ?_
  refine ps_callC (a := 0) (a' := 1) (As := [.int (x1)]) (id := 1) (st := [.int (0), .ref (116)]) kX11_net l_13_80 (by decide +kernel) (q_id_of rfl) rfl (Nat.le_of_ble_eq_true rfl) (s_mono h (s_I_of (fun v u h => ?_)) (fun E u h => ?_))
  · show ps_Ex (p_CW hL_net) (d + 1) 0 mL_net 7 [some (.ref 1), some (.int x1), some (.ref 116), none] [.int v, .int 0, .ref 116] u Q (fun _ _ => False)
    refine ps_blk [(.i2l, 1, 0, 0), (.lastore, 1, 0, 0), (.goto 6, 3, 15, 0), (.iconst 0, 1, 0, 0)] 16 [some (.ref 1), some (.int x1), some (.ref 116), none] [.int (0)] (q_wJ u 116 0 (Int32.toInt64 v)) [q_id 116 15 116, vp_in 0 (q_sh 116).2] (by decide +kernel) (by refine qt_i2l ?_; refine qt_jast ?_; refine qt_goto ?_; refine qt_iconst qc_0 ?_; exact qt_z rfl rfl rfl rfl rfl) ⟨(q_id_of rfl), (q_vin rfl)⟩ ?_
    exact ps_retI .int (by decide +kernel) rfl rfl h
  · obtain ⟨rfl, h⟩ := h
    refine ⟨[], ⟨0, 9, 12, 31⟩, [], "java/util/NoSuchElementException", 3, 1, fun G s m args c hΦ => ⟨hΦ.1, fun z hz => by cases hz⟩, by decide, by decide, p_CLw _ (by simp), by simp [q_CA], Or.inl ⟨3, rfl, rfl, by decide +kernel⟩, by decide, ?_⟩
    refine ps_blk [(.iconst 1, 1, 0, 0)] 14 (p_fg [some (.ref 1), some (.int x1), some (.ref 116), none] 3) [.int (1)] u [] (by decide +kernel) (by refine qt_iconst qc_1 ?_; exact qt_z rfl rfl rfl rfl rfl) trivial ?_
    exact ps_retI .int (by decide +kernel) rfl rfl h
theorem eL_struck {d : Nat} {x1 : Int32} {w : q_Sm} {Q : s_Po} (h : s_EvI d 1 mX11_struck w [.ref (1), .int (x1)] (fun v u => Q (some (.int 0)) (q_wJ u 116 0 (Int32.toInt64 v))) (fun E u => (E = "java/lang/IllegalArgumentException" ∧ Q (some (.int 1)) u))) : ps_EvW (d + 1) 1 mL_struck hL_struck w [.ref (1), .int (x1), .ref (116)] Q := by
  refine ps_evW (by decide +kernel) rfl (Nat.le_of_ble_eq_true rfl) cL_struck_in ?_
  show ps_Ex (p_CW hL_struck) (d + 1) 1 mL_struck 0 [some (.ref 1), some (.int x1), some (.ref 116), none] [] w Q (fun _ _ => False)
  refine ps_blk [(.aload_n 2, 1, 0, 0), (.iconst 0, 1, 0, 0), (.aload_n 0, 1, 0, 0), (.iload_n 1, 1, 0, 0)] 4 [some (.ref 1), some (.int x1), some (.ref 116), none] [.int (x1), .ref (1), .int (0), .ref (116)] w [] (by decide +kernel) (by refine qt_aload_n (r := 116) rfl ?_; refine qt_iconst qc_0 ?_; refine qt_aload_n (r := 1) rfl ?_; refine qt_iload_n (x := x1) rfl ?_; exact qt_z rfl rfl rfl rfl rfl) trivial ?_
  refine ps_callC (a := 0) (a' := 1) (As := [.int (x1)]) (id := 1) (st := [.int (0), .ref (116)]) kX11_struck l_13_83 (by decide +kernel) (q_id_of rfl) rfl (Nat.le_of_ble_eq_true rfl) (s_mono h (s_I_of (fun v u h => ?_)) (fun E u h => ?_))
  · show ps_Ex (p_CW hL_struck) (d + 1) 0 mL_struck 7 [some (.ref 1), some (.int x1), some (.ref 116), none] [.int v, .int 0, .ref 116] u Q (fun _ _ => False)
    refine ps_blk [(.i2l, 1, 0, 0), (.lastore, 1, 0, 0), (.goto 6, 3, 15, 0), (.iconst 0, 1, 0, 0)] 16 [some (.ref 1), some (.int x1), some (.ref 116), none] [.int (0)] (q_wJ u 116 0 (Int32.toInt64 v)) [q_id 116 15 116, vp_in 0 (q_sh 116).2] (by decide +kernel) (by refine qt_i2l ?_; refine qt_jast ?_; refine qt_goto ?_; refine qt_iconst qc_0 ?_; exact qt_z rfl rfl rfl rfl rfl) ⟨(q_id_of rfl), (q_vin rfl)⟩ ?_
    exact ps_retI .int (by decide +kernel) rfl rfl h
  · obtain ⟨rfl, h⟩ := h
    refine ⟨[], ⟨0, 9, 12, 13⟩, [], "java/lang/IllegalArgumentException", 3, 1, fun G s m args c hΦ => ⟨hΦ.1, fun z hz => by cases hz⟩, by decide, by decide, p_CLw _ (by simp), by simp [q_CA], Or.inl ⟨3, rfl, rfl, by decide +kernel⟩, by decide, ?_⟩
    refine ps_blk [(.iconst 1, 1, 0, 0)] 14 (p_fg [some (.ref 1), some (.int x1), some (.ref 116), none] 3) [.int (1)] u [] (by decide +kernel) (by refine qt_iconst qc_1 ?_; exact qt_z rfl rfl rfl rfl rfl) trivial ?_
    exact ps_retI .int (by decide +kernel) rfl rfl h
theorem eL_look {d : Nat} {x1 : Int32} {w : q_Sm} {Q : s_Po} (h : s_EvI d 1 mX11_look w [.ref (1), .int (x1)] (fun v u => Q (some (.int 0)) (q_wJ u 116 0 (Int32.toInt64 v))) (fun E u => (E = "java/lang/IllegalArgumentException" ∧ Q (some (.int 1)) u))) : ps_EvW (d + 1) 1 mL_look hL_look w [.ref (1), .int (x1), .ref (116)] Q := by
  refine ps_evW (by decide +kernel) rfl (Nat.le_of_ble_eq_true rfl) cL_look_in ?_
  show ps_Ex (p_CW hL_look) (d + 1) 1 mL_look 0 [some (.ref 1), some (.int x1), some (.ref 116), none] [] w Q (fun _ _ => False)
  refine ps_blk [(.aload_n 2, 1, 0, 0), (.iconst 0, 1, 0, 0), (.aload_n 0, 1, 0, 0), (.iload_n 1, 1, 0, 0)] 4 [some (.ref 1), some (.int x1), some (.ref 116), none] [.int (x1), .ref (1), .int (0), .ref (116)] w [] (by decide +kernel) (by refine qt_aload_n (r := 116) rfl ?_; refine qt_iconst qc_0 ?_; refine qt_aload_n (r := 1) rfl ?_; refine qt_iload_n (x := x1) rfl ?_; exact qt_z rfl rfl rfl rfl rfl) trivial ?_
  refine ps_callC (a := 0) (a' := 1) (As := [.int (x1)]) (id := 1) (st := [.int (0), .ref (116)]) kX11_look l_13_86 (by decide +kernel) (q_id_of rfl) rfl (Nat.le_of_ble_eq_true rfl) (s_mono h (s_I_of (fun v u h => ?_)) (fun E u h => ?_))
  · show ps_Ex (p_CW hL_look) (d + 1) 0 mL_look 7 [some (.ref 1), some (.int x1), some (.ref 116), none] [.int v, .int 0, .ref 116] u Q (fun _ _ => False)
    refine ps_blk [(.i2l, 1, 0, 0), (.lastore, 1, 0, 0), (.goto 6, 3, 15, 0), (.iconst 0, 1, 0, 0)] 16 [some (.ref 1), some (.int x1), some (.ref 116), none] [.int (0)] (q_wJ u 116 0 (Int32.toInt64 v)) [q_id 116 15 116, vp_in 0 (q_sh 116).2] (by decide +kernel) (by refine qt_i2l ?_; refine qt_jast ?_; refine qt_goto ?_; refine qt_iconst qc_0 ?_; exact qt_z rfl rfl rfl rfl rfl) ⟨(q_id_of rfl), (q_vin rfl)⟩ ?_
    exact ps_retI .int (by decide +kernel) rfl rfl h
  · obtain ⟨rfl, h⟩ := h
    refine ⟨[], ⟨0, 9, 12, 13⟩, [], "java/lang/IllegalArgumentException", 3, 1, fun G s m args c hΦ => ⟨hΦ.1, fun z hz => by cases hz⟩, by decide, by decide, p_CLw _ (by simp), by simp [q_CA], Or.inl ⟨3, rfl, rfl, by decide +kernel⟩, by decide, ?_⟩
    refine ps_blk [(.iconst 1, 1, 0, 0)] 14 (p_fg [some (.ref 1), some (.int x1), some (.ref 116), none] 3) [.int (1)] u [] (by decide +kernel) (by refine qt_iconst qc_1 ?_; exact qt_z rfl rfl rfl rfl rfl) trivial ?_
    exact ps_retI .int (by decide +kernel) rfl rfl h
theorem eL_settle {d : Nat} {x1 : Int32} {x2 : Int32} {x3 : Int32} {x4 : Int32} {x5 : Int32} {w : q_Sm} {Q : s_Po} (h : s_EvJ d 1 mX11_settle w [.ref (1), .int (x1), .int (x2), .int (x3), .int (x4), .int (x5)] (fun v u => Q (some (.int 0)) (q_wJ u 116 0 v)) (fun E u => (E = "java/lang/IllegalArgumentException" ∧ Q (some (.int 1)) u))) : ps_EvW (d + 1) 1 mL_settle hL_settle w [.ref (1), .int (x1), .int (x2), .int (x3), .int (x4), .int (x5), .ref (116)] Q := by
  refine ps_evW (by decide +kernel) rfl (Nat.le_of_ble_eq_true rfl) cL_settle_in ?_
  show ps_Ex (p_CW hL_settle) (d + 1) 1 mL_settle 0 [some (.ref 1), some (.int x1), some (.int x2), some (.int x3), some (.int x4), some (.int x5), some (.ref 116), none] [] w Q (fun _ _ => False)
  refine ps_blk [(.aload 6, 2, 0, 0), (.iconst 0, 1, 0, 0), (.aload_n 0, 1, 0, 0), (.iload_n 1, 1, 0, 0), (.iload_n 2, 1, 0, 0), (.iload_n 3, 1, 0, 0), (.iload 4, 2, 0, 0), (.iload 5, 2, 0, 0)] 11 [some (.ref 1), some (.int x1), some (.int x2), some (.int x3), some (.int x4), some (.int x5), some (.ref 116), none] [.int (x5), .int (x4), .int (x3), .int (x2), .int (x1), .ref (1), .int (0), .ref (116)] w [] (by decide +kernel) (by refine qt_aload (r := 116) rfl ?_; refine qt_iconst qc_0 ?_; refine qt_aload_n (r := 1) rfl ?_; refine qt_iload_n (x := x1) rfl ?_; refine qt_iload_n (x := x2) rfl ?_; refine qt_iload_n (x := x3) rfl ?_; refine qt_iload (x := x4) rfl ?_; refine qt_iload (x := x5) rfl ?_; exact qt_z rfl rfl rfl rfl rfl) trivial ?_
  refine ps_callC (a := 0) (a' := 1) (As := [.int (x1), .int (x2), .int (x3), .int (x4), .int (x5)]) (id := 1) (st := [.int (0), .ref (116)]) kX11_settle l_13_89 (by decide +kernel) (q_id_of rfl) rfl (Nat.le_of_ble_eq_true rfl) (s_mono h (s_J_of (fun v u h => ?_)) (fun E u h => ?_))
  · show ps_Ex (p_CW hL_settle) (d + 1) 0 mL_settle 14 [some (.ref 1), some (.int x1), some (.int x2), some (.int x3), some (.int x4), some (.int x5), some (.ref 116), none] [.long v, .int 0, .ref 116] u Q (fun _ _ => False)
    refine ps_blk [(.lastore, 1, 0, 0), (.goto 7, 3, 22, 0), (.iconst 0, 1, 0, 0)] 23 [some (.ref 1), some (.int x1), some (.int x2), some (.int x3), some (.int x4), some (.int x5), some (.ref 116), none] [.int (0)] (q_wJ u 116 0 (v)) [q_id 116 15 116, vp_in 0 (q_sh 116).2] (by decide +kernel) (by refine qt_jast ?_; refine qt_goto ?_; refine qt_iconst qc_0 ?_; exact qt_z rfl rfl rfl rfl rfl) ⟨(q_id_of rfl), (q_vin rfl)⟩ ?_
    exact ps_retI .int (by decide +kernel) rfl rfl h
  · obtain ⟨rfl, h⟩ := h
    refine ⟨[], ⟨0, 15, 18, 13⟩, [], "java/lang/IllegalArgumentException", 7, 2, fun G s m args c hΦ => ⟨hΦ.1, fun z hz => by cases hz⟩, by decide, by decide, p_CLw _ (by simp), by simp [q_CA], Or.inr ⟨rfl, by decide +kernel⟩, by decide, ?_⟩
    refine ps_blk [(.iconst 1, 1, 0, 0)] 21 (p_fg [some (.ref 1), some (.int x1), some (.int x2), some (.int x3), some (.int x4), some (.int x5), some (.ref 116), none] 7) [.int (1)] u [] (by decide +kernel) (by refine qt_iconst qc_1 ?_; exact qt_z rfl rfl rfl rfl rfl) trivial ?_
    exact ps_retI .int (by decide +kernel) rfl rfl h
theorem eL_now {d : Nat} {x1 : Int32} {x2 : Int32} {x3 : Int32} {x4 : Int32} {w : q_Sm} {Q : s_Po} (h : s_EvI d 1 mX11_now w [.ref (1), .int (x1), .int (x2), .int (x3), .int (x4)] (fun v u => (v = 0 → Q (some (.int 0)) (q_wJ u 116 0 0)) ∧ (¬ v = 0 → Q (some (.int 0)) (q_wJ u 116 0 1))) (fun E u => (E = "java/lang/IllegalArgumentException" ∧ Q (some (.int 1)) u))) : ps_EvW (d + 1) 1 mL_now hL_now w [.ref (1), .int (x1), .int (x2), .int (x3), .int (x4), .ref (116)] Q := by
  refine ps_evW (by decide +kernel) rfl (Nat.le_of_ble_eq_true rfl) cL_now_in ?_
  show ps_Ex (p_CW hL_now) (d + 1) 1 mL_now 0 [some (.ref 1), some (.int x1), some (.int x2), some (.int x3), some (.int x4), some (.ref 116), none] [] w Q (fun _ _ => False)
  refine ps_blk [(.aload 5, 2, 0, 0), (.iconst 0, 1, 0, 0), (.aload_n 0, 1, 0, 0), (.iload_n 1, 1, 0, 0), (.iload_n 2, 1, 0, 0), (.iload_n 3, 1, 0, 0), (.iload 4, 2, 0, 0)] 9 [some (.ref 1), some (.int x1), some (.int x2), some (.int x3), some (.int x4), some (.ref 116), none] [.int (x4), .int (x3), .int (x2), .int (x1), .ref (1), .int (0), .ref (116)] w [] (by decide +kernel) (by refine qt_aload (r := 116) rfl ?_; refine qt_iconst qc_0 ?_; refine qt_aload_n (r := 1) rfl ?_; refine qt_iload_n (x := x1) rfl ?_; refine qt_iload_n (x := x2) rfl ?_; refine qt_iload_n (x := x3) rfl ?_; refine qt_iload (x := x4) rfl ?_; exact qt_z rfl rfl rfl rfl rfl) trivial ?_
  refine ps_callC (a := 0) (a' := 1) (As := [.int (x1), .int (x2), .int (x3), .int (x4)]) (id := 1) (st := [.int (0), .ref (116)]) kX11_now l_13_93 (by decide +kernel) (q_id_of rfl) rfl (Nat.le_of_ble_eq_true rfl) (s_mono h (s_I_of (fun v u h => ?_)) (fun E u h => ?_))
  · show ps_Ex (p_CW hL_now) (d + 1) 0 mL_now 12 [some (.ref 1), some (.int x1), some (.int x2), some (.int x3), some (.int x4), some (.ref 116), none] [.int v, .int 0, .ref 116] u Q (fun _ _ => False)
    refine ps_if (cd := .eq) (off := 7) 19 (by decide +kernel) (by decide) (fun hc => ?_) (fun hc => ?_)
    · replace h := h.1 hc
      refine ps_blk [(.lconst 0, 1, 0, 0), (.lastore, 1, 0, 0), (.goto 7, 3, 28, 0), (.iconst 0, 1, 0, 0)] 29 [some (.ref 1), some (.int x1), some (.int x2), some (.int x3), some (.int x4), some (.ref 116), none] [.int (0)] (q_wJ u 116 0 (0)) [q_id 116 15 116, vp_in 0 (q_sh 116).2] (by decide +kernel) (by refine qt_lconst (vl := 0) (by decide) ?_; refine qt_jast ?_; refine qt_goto ?_; refine qt_iconst qc_0 ?_; exact qt_z rfl rfl rfl rfl rfl) ⟨(q_id_of rfl), (q_vin rfl)⟩ ?_
      exact ps_retI .int (by decide +kernel) rfl rfl h
    · replace h := h.2 hc
      refine ps_blk [(.lconst 1, 1, 0, 0), (.goto 4, 3, 20, 0), (.lastore, 1, 0, 0), (.goto 7, 3, 28, 0), (.iconst 0, 1, 0, 0)] 29 [some (.ref 1), some (.int x1), some (.int x2), some (.int x3), some (.int x4), some (.ref 116), none] [.int (0)] (q_wJ u 116 0 (1)) [q_id 116 15 116, vp_in 0 (q_sh 116).2] (by decide +kernel) (by refine qt_lconst (vl := 1) (by decide) ?_; refine qt_goto ?_; refine qt_jast ?_; refine qt_goto ?_; refine qt_iconst qc_0 ?_; exact qt_z rfl rfl rfl rfl rfl) ⟨(q_id_of rfl), (q_vin rfl)⟩ ?_
      exact ps_retI .int (by decide +kernel) rfl rfl h
  · obtain ⟨rfl, h⟩ := h
    refine ⟨[], ⟨0, 21, 24, 13⟩, [], "java/lang/IllegalArgumentException", 6, 2, fun G s m args c hΦ => ⟨hΦ.1, fun z hz => by cases hz⟩, by decide, by decide, p_CLw _ (by simp), by simp [q_CA], Or.inr ⟨rfl, by decide +kernel⟩, by decide, ?_⟩
    refine ps_blk [(.iconst 1, 1, 0, 0)] 27 (p_fg [some (.ref 1), some (.int x1), some (.int x2), some (.int x3), some (.int x4), some (.ref 116), none] 6) [.int (1)] u [] (by decide +kernel) (by refine qt_iconst qc_1 ?_; exact qt_z rfl rfl rfl rfl rfl) trivial ?_
    exact ps_retI .int (by decide +kernel) rfl rfl h
theorem eL_bids {d : Nat} {x1 : Int32} {x2 : Int32} {x3 : Int32} {x4 : Int32} {w : q_Sm} {Q : s_Po} (h : s_EvI d 2 mX11_bids w [.ref (1), .int (x1), .int (x2), .int (x3), .int (x4)] (fun v u => Q (some (.int 0)) (q_wJ u 116 0 (Int32.toInt64 v))) (fun E u => (E = "java/lang/IllegalArgumentException" ∧ Q (some (.int 1)) u))) : ps_EvW (d + 1) 2 mL_bids hL_bids w [.ref (1), .int (x1), .int (x2), .int (x3), .int (x4), .ref (116)] Q := by
  refine ps_evW (by decide +kernel) rfl (Nat.le_of_ble_eq_true rfl) cL_bids_in ?_
  show ps_Ex (p_CW hL_bids) (d + 1) 2 mL_bids 0 [some (.ref 1), some (.int x1), some (.int x2), some (.int x3), some (.int x4), some (.ref 116), none] [] w Q (fun _ _ => False)
  refine ps_blk [(.aload 5, 2, 0, 0), (.iconst 0, 1, 0, 0), (.aload_n 0, 1, 0, 0), (.iload_n 1, 1, 0, 0), (.iload_n 2, 1, 0, 0), (.iload_n 3, 1, 0, 0), (.iload 4, 2, 0, 0)] 9 [some (.ref 1), some (.int x1), some (.int x2), some (.int x3), some (.int x4), some (.ref 116), none] [.int (x4), .int (x3), .int (x2), .int (x1), .ref (1), .int (0), .ref (116)] w [] (by decide +kernel) (by refine qt_aload (r := 116) rfl ?_; refine qt_iconst qc_0 ?_; refine qt_aload_n (r := 1) rfl ?_; refine qt_iload_n (x := x1) rfl ?_; refine qt_iload_n (x := x2) rfl ?_; refine qt_iload_n (x := x3) rfl ?_; refine qt_iload (x := x4) rfl ?_; exact qt_z rfl rfl rfl rfl rfl) trivial ?_
  refine ps_callC (a := 0) (a' := 2) (As := [.int (x1), .int (x2), .int (x3), .int (x4)]) (id := 1) (st := [.int (0), .ref (116)]) kX11_bids l_13_97 (by decide +kernel) (q_id_of rfl) rfl (Nat.le_of_ble_eq_true rfl) (s_mono h (s_I_of (fun v u h => ?_)) (fun E u h => ?_))
  · show ps_Ex (p_CW hL_bids) (d + 1) 0 mL_bids 12 [some (.ref 1), some (.int x1), some (.int x2), some (.int x3), some (.int x4), some (.ref 116), none] [.int v, .int 0, .ref 116] u Q (fun _ _ => False)
    refine ps_blk [(.i2l, 1, 0, 0), (.lastore, 1, 0, 0), (.goto 7, 3, 21, 0), (.iconst 0, 1, 0, 0)] 22 [some (.ref 1), some (.int x1), some (.int x2), some (.int x3), some (.int x4), some (.ref 116), none] [.int (0)] (q_wJ u 116 0 (Int32.toInt64 v)) [q_id 116 15 116, vp_in 0 (q_sh 116).2] (by decide +kernel) (by refine qt_i2l ?_; refine qt_jast ?_; refine qt_goto ?_; refine qt_iconst qc_0 ?_; exact qt_z rfl rfl rfl rfl rfl) ⟨(q_id_of rfl), (q_vin rfl)⟩ ?_
    exact ps_retI .int (by decide +kernel) rfl rfl h
  · obtain ⟨rfl, h⟩ := h
    refine ⟨[], ⟨0, 14, 17, 13⟩, [], "java/lang/IllegalArgumentException", 6, 2, fun G s m args c hΦ => ⟨hΦ.1, fun z hz => by cases hz⟩, by decide, by decide, p_CLw _ (by simp), by simp [q_CA], Or.inr ⟨rfl, by decide +kernel⟩, by decide, ?_⟩
    refine ps_blk [(.iconst 1, 1, 0, 0)] 20 (p_fg [some (.ref 1), some (.int x1), some (.int x2), some (.int x3), some (.int x4), some (.ref 116), none] 6) [.int (1)] u [] (by decide +kernel) (by refine qt_iconst qc_1 ?_; exact qt_z rfl rfl rfl rfl rfl) trivial ?_
    exact ps_retI .int (by decide +kernel) rfl rfl h
theorem eL_has {d : Nat} {x1 : Int32} {x2 : Int32} {x3 : Int32} {x4 : Int32} {w : q_Sm} {Q : s_Po} (h : s_EvI d 1 mX11_has w [.ref (1), .int (x1), .int (x2), .int (x3), .int (x4)] (fun v u => Q (some (.int 0)) (q_wJ u 116 0 (Int32.toInt64 v))) (fun E u => (E = "java/lang/IllegalArgumentException" ∧ Q (some (.int 1)) u))) : ps_EvW (d + 1) 1 mL_has hL_has w [.ref (1), .int (x1), .int (x2), .int (x3), .int (x4), .ref (116)] Q := by
  refine ps_evW (by decide +kernel) rfl (Nat.le_of_ble_eq_true rfl) cL_has_in ?_
  show ps_Ex (p_CW hL_has) (d + 1) 1 mL_has 0 [some (.ref 1), some (.int x1), some (.int x2), some (.int x3), some (.int x4), some (.ref 116), none] [] w Q (fun _ _ => False)
  refine ps_blk [(.aload 5, 2, 0, 0), (.iconst 0, 1, 0, 0), (.aload_n 0, 1, 0, 0), (.iload_n 1, 1, 0, 0), (.iload_n 2, 1, 0, 0), (.iload_n 3, 1, 0, 0), (.iload 4, 2, 0, 0)] 9 [some (.ref 1), some (.int x1), some (.int x2), some (.int x3), some (.int x4), some (.ref 116), none] [.int (x4), .int (x3), .int (x2), .int (x1), .ref (1), .int (0), .ref (116)] w [] (by decide +kernel) (by refine qt_aload (r := 116) rfl ?_; refine qt_iconst qc_0 ?_; refine qt_aload_n (r := 1) rfl ?_; refine qt_iload_n (x := x1) rfl ?_; refine qt_iload_n (x := x2) rfl ?_; refine qt_iload_n (x := x3) rfl ?_; refine qt_iload (x := x4) rfl ?_; exact qt_z rfl rfl rfl rfl rfl) trivial ?_
  refine ps_callC (a := 0) (a' := 1) (As := [.int (x1), .int (x2), .int (x3), .int (x4)]) (id := 1) (st := [.int (0), .ref (116)]) kX11_has l_13_100 (by decide +kernel) (q_id_of rfl) rfl (Nat.le_of_ble_eq_true rfl) (s_mono h (s_I_of (fun v u h => ?_)) (fun E u h => ?_))
  · show ps_Ex (p_CW hL_has) (d + 1) 0 mL_has 12 [some (.ref 1), some (.int x1), some (.int x2), some (.int x3), some (.int x4), some (.ref 116), none] [.int v, .int 0, .ref 116] u Q (fun _ _ => False)
    refine ps_blk [(.i2l, 1, 0, 0), (.lastore, 1, 0, 0), (.goto 7, 3, 21, 0), (.iconst 0, 1, 0, 0)] 22 [some (.ref 1), some (.int x1), some (.int x2), some (.int x3), some (.int x4), some (.ref 116), none] [.int (0)] (q_wJ u 116 0 (Int32.toInt64 v)) [q_id 116 15 116, vp_in 0 (q_sh 116).2] (by decide +kernel) (by refine qt_i2l ?_; refine qt_jast ?_; refine qt_goto ?_; refine qt_iconst qc_0 ?_; exact qt_z rfl rfl rfl rfl rfl) ⟨(q_id_of rfl), (q_vin rfl)⟩ ?_
    exact ps_retI .int (by decide +kernel) rfl rfl h
  · obtain ⟨rfl, h⟩ := h
    refine ⟨[], ⟨0, 14, 17, 13⟩, [], "java/lang/IllegalArgumentException", 6, 2, fun G s m args c hΦ => ⟨hΦ.1, fun z hz => by cases hz⟩, by decide, by decide, p_CLw _ (by simp), by simp [q_CA], Or.inr ⟨rfl, by decide +kernel⟩, by decide, ?_⟩
    refine ps_blk [(.iconst 1, 1, 0, 0)] 20 (p_fg [some (.ref 1), some (.int x1), some (.int x2), some (.int x3), some (.int x4), some (.ref 116), none] 6) [.int (1)] u [] (by decide +kernel) (by refine qt_iconst qc_1 ?_; exact qt_z rfl rfl rfl rfl rfl) trivial ?_
    exact ps_retI .int (by decide +kernel) rfl rfl h
theorem eL_decade {d : Nat} {x1 : Int32} {x2 : Int32} {x3 : Int32} {w : q_Sm} {Q : s_Po} (h : s_EvI d 1 mX11_decade w [.ref (1), .int (x1), .int (x2), .int (x3)] (fun v u => Q (some (.int 0)) (q_wJ u 116 0 (Int32.toInt64 v))) (fun E u => (E = "java/lang/IllegalArgumentException" ∧ Q (some (.int 1)) u))) : ps_EvW (d + 1) 1 mL_decade hL_decade w [.ref (1), .int (x1), .int (x2), .int (x3), .ref (116)] Q := by
  refine ps_evW (by decide +kernel) rfl (Nat.le_of_ble_eq_true rfl) cL_decade_in ?_
  show ps_Ex (p_CW hL_decade) (d + 1) 1 mL_decade 0 [some (.ref 1), some (.int x1), some (.int x2), some (.int x3), some (.ref 116), none] [] w Q (fun _ _ => False)
  refine ps_blk [(.aload 4, 2, 0, 0), (.iconst 0, 1, 0, 0), (.aload_n 0, 1, 0, 0), (.iload_n 1, 1, 0, 0), (.iload_n 2, 1, 0, 0), (.iload_n 3, 1, 0, 0)] 7 [some (.ref 1), some (.int x1), some (.int x2), some (.int x3), some (.ref 116), none] [.int (x3), .int (x2), .int (x1), .ref (1), .int (0), .ref (116)] w [] (by decide +kernel) (by refine qt_aload (r := 116) rfl ?_; refine qt_iconst qc_0 ?_; refine qt_aload_n (r := 1) rfl ?_; refine qt_iload_n (x := x1) rfl ?_; refine qt_iload_n (x := x2) rfl ?_; refine qt_iload_n (x := x3) rfl ?_; exact qt_z rfl rfl rfl rfl rfl) trivial ?_
  refine ps_callC (a := 0) (a' := 1) (As := [.int (x1), .int (x2), .int (x3)]) (id := 1) (st := [.int (0), .ref (116)]) kX11_decade l_13_103 (by decide +kernel) (q_id_of rfl) rfl (Nat.le_of_ble_eq_true rfl) (s_mono h (s_I_of (fun v u h => ?_)) (fun E u h => ?_))
  · show ps_Ex (p_CW hL_decade) (d + 1) 0 mL_decade 10 [some (.ref 1), some (.int x1), some (.int x2), some (.int x3), some (.ref 116), none] [.int v, .int 0, .ref 116] u Q (fun _ _ => False)
    refine ps_blk [(.i2l, 1, 0, 0), (.lastore, 1, 0, 0), (.goto 7, 3, 19, 0), (.iconst 0, 1, 0, 0)] 20 [some (.ref 1), some (.int x1), some (.int x2), some (.int x3), some (.ref 116), none] [.int (0)] (q_wJ u 116 0 (Int32.toInt64 v)) [q_id 116 15 116, vp_in 0 (q_sh 116).2] (by decide +kernel) (by refine qt_i2l ?_; refine qt_jast ?_; refine qt_goto ?_; refine qt_iconst qc_0 ?_; exact qt_z rfl rfl rfl rfl rfl) ⟨(q_id_of rfl), (q_vin rfl)⟩ ?_
    exact ps_retI .int (by decide +kernel) rfl rfl h
  · obtain ⟨rfl, h⟩ := h
    refine ⟨[], ⟨0, 12, 15, 13⟩, [], "java/lang/IllegalArgumentException", 5, 2, fun G s m args c hΦ => ⟨hΦ.1, fun z hz => by cases hz⟩, by decide, by decide, p_CLw _ (by simp), by simp [q_CA], Or.inr ⟨rfl, by decide +kernel⟩, by decide, ?_⟩
    refine ps_blk [(.iconst 1, 1, 0, 0)] 18 (p_fg [some (.ref 1), some (.int x1), some (.int x2), some (.int x3), some (.ref 116), none] 5) [.int (1)] u [] (by decide +kernel) (by refine qt_iconst qc_1 ?_; exact qt_z rfl rfl rfl rfl rfl) trivial ?_
    exact ps_retI .int (by decide +kernel) rfl rfl h
theorem eL_span {d : Nat} {x1 : Int32} {x2 : Int32} {x3 : Int32} {x4 : Int32} {w : q_Sm} {Q : s_Po} (h : s_EvI d 1 mX11_span w [.ref (1), .int (x1), .int (x2), .int (x3), .int (x4)] (fun v u => Q (some (.int 0)) (q_wJ u 116 0 (Int32.toInt64 v))) (fun E u => (E = "java/lang/IllegalArgumentException" ∧ Q (some (.int 1)) u))) : ps_EvW (d + 1) 1 mL_span hL_span w [.ref (1), .int (x1), .int (x2), .int (x3), .int (x4), .ref (116)] Q := by
  refine ps_evW (by decide +kernel) rfl (Nat.le_of_ble_eq_true rfl) cL_span_in ?_
  show ps_Ex (p_CW hL_span) (d + 1) 1 mL_span 0 [some (.ref 1), some (.int x1), some (.int x2), some (.int x3), some (.int x4), some (.ref 116), none] [] w Q (fun _ _ => False)
  refine ps_blk [(.aload 5, 2, 0, 0), (.iconst 0, 1, 0, 0), (.aload_n 0, 1, 0, 0), (.iload_n 1, 1, 0, 0), (.iload_n 2, 1, 0, 0), (.iload_n 3, 1, 0, 0), (.iload 4, 2, 0, 0)] 9 [some (.ref 1), some (.int x1), some (.int x2), some (.int x3), some (.int x4), some (.ref 116), none] [.int (x4), .int (x3), .int (x2), .int (x1), .ref (1), .int (0), .ref (116)] w [] (by decide +kernel) (by refine qt_aload (r := 116) rfl ?_; refine qt_iconst qc_0 ?_; refine qt_aload_n (r := 1) rfl ?_; refine qt_iload_n (x := x1) rfl ?_; refine qt_iload_n (x := x2) rfl ?_; refine qt_iload_n (x := x3) rfl ?_; refine qt_iload (x := x4) rfl ?_; exact qt_z rfl rfl rfl rfl rfl) trivial ?_
  refine ps_callC (a := 0) (a' := 1) (As := [.int (x1), .int (x2), .int (x3), .int (x4)]) (id := 1) (st := [.int (0), .ref (116)]) kX11_span l_13_107 (by decide +kernel) (q_id_of rfl) rfl (Nat.le_of_ble_eq_true rfl) (s_mono h (s_I_of (fun v u h => ?_)) (fun E u h => ?_))
  · show ps_Ex (p_CW hL_span) (d + 1) 0 mL_span 12 [some (.ref 1), some (.int x1), some (.int x2), some (.int x3), some (.int x4), some (.ref 116), none] [.int v, .int 0, .ref 116] u Q (fun _ _ => False)
    refine ps_blk [(.i2l, 1, 0, 0), (.lastore, 1, 0, 0), (.goto 7, 3, 21, 0), (.iconst 0, 1, 0, 0)] 22 [some (.ref 1), some (.int x1), some (.int x2), some (.int x3), some (.int x4), some (.ref 116), none] [.int (0)] (q_wJ u 116 0 (Int32.toInt64 v)) [q_id 116 15 116, vp_in 0 (q_sh 116).2] (by decide +kernel) (by refine qt_i2l ?_; refine qt_jast ?_; refine qt_goto ?_; refine qt_iconst qc_0 ?_; exact qt_z rfl rfl rfl rfl rfl) ⟨(q_id_of rfl), (q_vin rfl)⟩ ?_
    exact ps_retI .int (by decide +kernel) rfl rfl h
  · obtain ⟨rfl, h⟩ := h
    refine ⟨[], ⟨0, 14, 17, 13⟩, [], "java/lang/IllegalArgumentException", 6, 2, fun G s m args c hΦ => ⟨hΦ.1, fun z hz => by cases hz⟩, by decide, by decide, p_CLw _ (by simp), by simp [q_CA], Or.inr ⟨rfl, by decide +kernel⟩, by decide, ?_⟩
    refine ps_blk [(.iconst 1, 1, 0, 0)] 20 (p_fg [some (.ref 1), some (.int x1), some (.int x2), some (.int x3), some (.int x4), some (.ref 116), none] 6) [.int (1)] u [] (by decide +kernel) (by refine qt_iconst qc_1 ?_; exact qt_z rfl rfl rfl rfl rfl) trivial ?_
    exact ps_retI .int (by decide +kernel) rfl rfl h
theorem eL_brightest {d : Nat} {x1 : Int32} {w : q_Sm} {Q : s_Po} (h : s_EvI d 1 mX11_brightest w [.ref (1), .int (x1)] (fun v u => Q (some (.int 0)) (q_wJ u 116 0 (Int32.toInt64 v))) (fun E u => (E = "java/lang/IllegalArgumentException" ∧ Q (some (.int 1)) u))) : ps_EvW (d + 1) 1 mL_brightest hL_brightest w [.ref (1), .int (x1), .ref (116)] Q := by
  refine ps_evW (by decide +kernel) rfl (Nat.le_of_ble_eq_true rfl) cL_brightest_in ?_
  show ps_Ex (p_CW hL_brightest) (d + 1) 1 mL_brightest 0 [some (.ref 1), some (.int x1), some (.ref 116), none] [] w Q (fun _ _ => False)
  refine ps_blk [(.aload_n 2, 1, 0, 0), (.iconst 0, 1, 0, 0), (.aload_n 0, 1, 0, 0), (.iload_n 1, 1, 0, 0)] 4 [some (.ref 1), some (.int x1), some (.ref 116), none] [.int (x1), .ref (1), .int (0), .ref (116)] w [] (by decide +kernel) (by refine qt_aload_n (r := 116) rfl ?_; refine qt_iconst qc_0 ?_; refine qt_aload_n (r := 1) rfl ?_; refine qt_iload_n (x := x1) rfl ?_; exact qt_z rfl rfl rfl rfl rfl) trivial ?_
  refine ps_callC (a := 0) (a' := 1) (As := [.int (x1)]) (id := 1) (st := [.int (0), .ref (116)]) kX11_brightest l_13_110 (by decide +kernel) (q_id_of rfl) rfl (Nat.le_of_ble_eq_true rfl) (s_mono h (s_I_of (fun v u h => ?_)) (fun E u h => ?_))
  · show ps_Ex (p_CW hL_brightest) (d + 1) 0 mL_brightest 7 [some (.ref 1), some (.int x1), some (.ref 116), none] [.int v, .int 0, .ref 116] u Q (fun _ _ => False)
    refine ps_blk [(.i2l, 1, 0, 0), (.lastore, 1, 0, 0), (.goto 6, 3, 15, 0), (.iconst 0, 1, 0, 0)] 16 [some (.ref 1), some (.int x1), some (.ref 116), none] [.int (0)] (q_wJ u 116 0 (Int32.toInt64 v)) [q_id 116 15 116, vp_in 0 (q_sh 116).2] (by decide +kernel) (by refine qt_i2l ?_; refine qt_jast ?_; refine qt_goto ?_; refine qt_iconst qc_0 ?_; exact qt_z rfl rfl rfl rfl rfl) ⟨(q_id_of rfl), (q_vin rfl)⟩ ?_
    exact ps_retI .int (by decide +kernel) rfl rfl h
  · obtain ⟨rfl, h⟩ := h
    refine ⟨[], ⟨0, 9, 12, 13⟩, [], "java/lang/IllegalArgumentException", 3, 1, fun G s m args c hΦ => ⟨hΦ.1, fun z hz => by cases hz⟩, by decide, by decide, p_CLw _ (by simp), by simp [q_CA], Or.inl ⟨3, rfl, rfl, by decide +kernel⟩, by decide, ?_⟩
    refine ps_blk [(.iconst 1, 1, 0, 0)] 14 (p_fg [some (.ref 1), some (.int x1), some (.ref 116), none] 3) [.int (1)] u [] (by decide +kernel) (by refine qt_iconst qc_1 ?_; exact qt_z rfl rfl rfl rfl rfl) trivial ?_
    exact ps_retI .int (by decide +kernel) rfl rfl h
