/-! a throw that is caught in the method itself -/
section PCatch
variable {e : Env} {f : JFrame} {a : Addr}
/-- a row of the table that names a class which the thrown thing is not of: the search goes on behind it -/
theorem p_goNo {s : State} {Q : Handler → Pre} {E : CtlPost} {d : Bool} {acts : List Action} {x : ExceptionTableEntry} {t : List ExceptionTableEntry} {c : ClassId} {cell : Cell} (hx : covers x f.pc = true) (h0 : x.catchType ≠ 0)
    (hl : s.vm.ClassLinks e.platform f.method.cls x.catchType c) (hcell : s.heap[a]? = some cell) (hobj : ∀ k, cell.vm ≠ .statics k)
    (hk : ∃ k, s.vm.classes[cell.cls]? = some k) (hc : ∃ k, s.vm.classes[c]? = some k) (hno : s.vm.assignable cell.cls c = false) :
    wp (findHandler.go f a (x :: t)) Q E e d acts s ↔ wp (findHandler.go f a t) Q E e d acts (s.setVm (s.vm.noted f.method.cls x.catchType (.cls c))) := by
  simp only [covers] at hx
  obtain ⟨r1, r2⟩ := (resolveClass_links e.toSetting hl).op (op := VmOp.resolveClass f.method.cls x.catchType) rfl
  have al : s.vm.Alike (s.vm.noted f.method.cls x.catchType (.cls c)) := (Vm.Alike.refl s.vm).noted _ _ _
  obtain ⟨_, h1⟩ := hk
  obtain ⟨_, h2⟩ := hc
  obtain ⟨_, h3, -⟩ := al.2.2 _ _ h1
  obtain ⟨_, h4, -⟩ := al.2.2 _ _ h2
  have h5 : (s.vm.noted f.method.cls x.catchType (.cls c)).assignable cell.cls c = false := by rw [al.assignable]; exact hno
  simp [findHandler.go, hx, h0, r1, r2, hcell, hobj, h3, h4, h5, VmOp.dirties, VmOp.acts]
theorem p_goYes {s : State} {Q : Handler → Pre} {E : CtlPost} {d : Bool} {acts : List Action} {x : ExceptionTableEntry} {t : List ExceptionTableEntry} {c : ClassId} {cell : Cell} (hx : covers x f.pc = true) (h0 : x.catchType ≠ 0)
    (hl : s.vm.ClassLinks e.platform f.method.cls x.catchType c) (hcell : s.heap[a]? = some cell) (hobj : ∀ k, cell.vm ≠ .statics k)
    (hk : ∃ k, s.vm.classes[cell.cls]? = some k) (hc : ∃ k, s.vm.classes[c]? = some k) (hfit : s.vm.assignable cell.cls c = true) :
    wp (findHandler.go f a (x :: t)) Q E e d acts s ↔ Q (.found x.handlerPc) d acts (s.setVm (s.vm.noted f.method.cls x.catchType (.cls c))) := by
  simp only [covers] at hx
  obtain ⟨r1, r2⟩ := (resolveClass_links e.toSetting hl).op (op := VmOp.resolveClass f.method.cls x.catchType) rfl
  have al : s.vm.Alike (s.vm.noted f.method.cls x.catchType (.cls c)) := (Vm.Alike.refl s.vm).noted _ _ _
  obtain ⟨_, h1⟩ := hk
  obtain ⟨_, h2⟩ := hc
  obtain ⟨_, h3, -⟩ := al.2.2 _ _ h1
  obtain ⟨_, h4, -⟩ := al.2.2 _ _ h2
  have h5 : (s.vm.noted f.method.cls x.catchType (.cls c)).assignable cell.cls c = true := by rw [al.assignable]; exact hfit
  simp [findHandler.go, hx, h0, r1, r2, hcell, hobj, h3, h4, h5, VmOp.dirties, VmOp.acts]
def p_Fnd (e : Env) (s : State) (f : JFrame) (a : Addr) (pc : Nat) (vm' : Vm) : Prop :=
  ∀ (Q : Handler → Pre) (E : CtlPost) (d : Bool) (acts : List Action), wp (findHandler f a) Q E e d acts s ↔ Q (.found pc) d acts (s.setVm vm')
theorem p_stepC {s : State} {r : List Frame} {pc : Nat} {vm' : Vm} (h : p_Fnd e s f a pc vm') : (stepThrowing e s a (.java f :: r)).Is ((s.setVm vm').setFrames (.java { f with pc := pc, stack := [.ref a] } :: r)) [] := by
  simp only [stepThrowing, searchFrame, vmDo]
  generalize hr : Sem.go _ e false [] s = res
  obtain ⟨as, rfl, ha⟩ := Sem.eq_ok_of hr (a := Handler.found pc) (s' := s.setVm vm') (acts' := []) (by simp [h _ _ _ _])
  exact ⟨rfl, ha⟩
theorem p_svf (u : State) (vm' : Vm) (F G : List Frame) : ((u.setFrames F).setVm vm').setFrames G = (u.setVm vm').setFrames G := by
  rw [show (u.setFrames F).setVm vm' = (u.setVm vm').setFrames F from rfl, State.setFrames_setFrames]
theorem p_caught {tb : Tables} {s target : State} {c : Code} {below : List Frame} (h : At s f.method c below) {pc : Nat} {vm' : Vm}
    (hf : p_Fnd e ((s.setTop f).pushFrame (.throwing a)) f a pc vm') (hr : Steps tb e below ((s.setVm vm').setTop { f with pc := pc, stack := [.ref a] }) target) :
    Steps tb e below ((s.setTop f).pushFrame (.throwing a)) target := by
  obtain ⟨z1, z2⟩ := h.throwing a
  refine Steps.head z1 z2 ?_
  rw [stepThread_throwing (frames_entered h.top _), (p_stepC (s := (s.setTop f).pushFrame (.throwing a)) hf).1]
  obtain ⟨g0, hg⟩ := Option.isSome_iff_exists.mp h.top
  obtain ⟨r, hr0⟩ := State.topJava?_eq_some.mp hg
  have hr1 : (s.setVm vm').frames = .java g0 :: r := hr0
  rw [State.setTop_of_frames _ hr1] at hr
  rw [hr0, List.tail_cons, State.pushFrame, p_svf, State.setTop_of_frames _ hr0, p_svf]
  exact hr
/-- a row that is passed: it doesn't cover the place, or it names a class that the thrown thing is not of -/
def p_Pas (pl : Platform) (s₀ : State) (d : ClassId) (pc : Nat) (th : ClassId) (y : ExceptionTableEntry) : Prop :=
  covers y pc = false ∨ (y.catchType ≠ 0 ∧ ∃ c, s₀.vm.ClassLinks pl d y.catchType c ∧ s₀.vm.assignable th c = false)
theorem p_search {s₀ : State} {cell : Cell} (hobj : ∀ k, cell.vm ≠ .statics k) (hk0 : ∃ k, s₀.vm.classes[cell.cls]? = some k) (x : ExceptionTableEntry) (rest : List ExceptionTableEntry) (hx : covers x f.pc = true) (h0 : x.catchType ≠ 0) {c : ClassId} (hl : s₀.vm.ClassLinks e.platform f.method.cls x.catchType c) (hfit : s₀.vm.assignable cell.cls c = true) :
    ∀ (pre : List ExceptionTableEntry) (S : State), s₀.WarmedH S.vm → S.heap[a]? = some cell → (∀ y ∈ pre, p_Pas e.platform s₀ f.method.cls f.pc cell.cls y) →
      ∃ vm', s₀.WarmedH vm' ∧ ∀ (Q : Handler → Pre) (E : CtlPost) (d : Bool) (acts : List Action), wp (findHandler.go f a (pre ++ x :: rest)) Q E e d acts S ↔ Q (.found x.handlerPc) d acts (S.setVm vm') := by
  obtain ⟨k0, hk0⟩ := hk0
  intro pre
  induction pre with
  | nil =>
    intro S hW hcell _
    obtain ⟨k0', hk0', -⟩ := hW.alike.2.2 _ _ hk0
    obtain ⟨dk, _, _, kt, hd, _, _, _, _, hkt, _, hopen⟩ := hl.here
    obtain ⟨kt', hkt', -⟩ := hW.alike.2.2 _ _ hkt
    exact ⟨_, hW.noted hd hopen (State.rightAt_cls hl), fun Q E d acts => p_goYes hx h0 (hW.classLinks hl) hcell hobj ⟨k0', hk0'⟩ ⟨kt', hkt'⟩ (by rw [hW.alike.assignable]; exact hfit)⟩
  | cons y ys ih =>
    intro S hW hcell hpass
    obtain ⟨k0', hk0', -⟩ := hW.alike.2.2 _ _ hk0
    have hr : ∀ z ∈ ys, p_Pas e.platform s₀ f.method.cls f.pc cell.cls z := fun z hz => hpass z (List.mem_cons_of_mem _ hz)
    by_cases hcov : covers y f.pc = true
    · rcases hpass y List.mem_cons_self with h | ⟨hy0, cy, hly, hno⟩
      · rw [h] at hcov; cases hcov
      · obtain ⟨dk, _, _, kt, hd, _, _, _, _, hkt, _, hopen⟩ := hly.here
        obtain ⟨kt', hkt', -⟩ := hW.alike.2.2 _ _ hkt
        obtain ⟨vm', hW', hq⟩ := ih (S.setVm (S.vm.noted f.method.cls y.catchType (.cls cy))) (hW.noted hd hopen (State.rightAt_cls hly)) hcell hr
        exact ⟨vm', hW', fun Q E d acts => by
          rw [List.cons_append, p_goNo hcov hy0 (hW.classLinks hly) hcell hobj ⟨k0', hk0'⟩ ⟨kt', hkt'⟩ (by rw [hW.alike.assignable]; exact hno)]
          exact hq Q E d acts⟩
    · obtain ⟨vm', hW', hq⟩ := ih S hW hcell hr
      exact ⟨vm', hW', fun Q E d acts => by
        rw [List.cons_append, W.findHandler_go_skip (by simpa using hcov)]
        exact hq Q E d acts⟩
end PCatch
theorem p_catch {p : Program} {l : Launch} {e : Env} {R : Room} {s : State} {m : MethodId} {args : Array Value} {below : List Frame} {meth : Method} {c : Code} {H : Heap} {locs : List Loc} {cells slots pc : Nat} {Q : State → Prop} {ls : Array Slot} {rest : List Value} {own name E : String} {ce : Cell} {q : Addr} (hown : s.vm.findClass own = some m.cls) (pre : List ExceptionTableEntry) (x : ExceptionTableEntry) (suf : List ExceptionTableEntry) (hsplit : c.exceptionTable.toList = pre ++ x :: suf)
    (hpass : ∀ z ∈ pre, covers z pc = false ∨ (z.catchType ≠ 0 ∧ ∃ nm : String, (Cond.classLink own z.catchType nm).before args s = true ∧ va_Nc E nm s)) (hx : covers x pc = true) (h0 : x.catchType ≠ 0)
    (hlink : (Cond.classLink own x.catchType name).before args s = true) (hcast : (Cond.castable E name).before #[] s = true) (hcell : H[q]? = some ce) (hv : ce.vm = .none) (hcl : s.vm.findClass E = some ce.cls)
    (kk : W p l e R s m args below meth c H locs cells slots Q (F0 m x.handlerPc ls [.ref q])) : vx_W p l e R s m args below meth c H locs cells slots Q (F0 m pc ls rest) q := by
  intro T hT X
  have hpl : e.platform.magicAccessors = ({} : Platform).magicAccessors := by rw [X.admits.platform]
  obtain ⟨c3, c4, hc3, hc4, hasg⟩ := Cond.castable_spec hcast
  cases Option.some.inj (hc3.symm.trans hcl)
  obtain ⟨c5, hc5, hcl5⟩ := Cond.classLink_spec hown hlink e.platform hpl
  cases Option.some.inj (hc4.symm.trans hc5)
  obtain ⟨vm', hW', hq⟩ := p_search (e := e) (f := F0 m pc ls rest) (a := q) (s₀ := s) (cell := ce) (fun k h => by rw [hv] at h; cases h) (by obtain ⟨k9, h9, -⟩ := Vm.findClass_spec hcl; exact ⟨k9, h9⟩) x suf hx h0 hcl5 hasg pre ((T.setTop (F0 m pc ls rest)).pushFrame (.throwing q)) X.warmed (by rw [← hcell, ← hT]; rfl)
    (fun z hz => by
      rcases hpass z hz with h | ⟨hz0, nm, hl1, hn1⟩
      · exact Or.inl h
      · obtain ⟨c6, hc6, hcl6⟩ := Cond.classLink_spec hown hl1 e.platform hpl
        obtain ⟨a8, b8, h1, h2, h3⟩ := hn1
        cases Option.some.inj (h1.symm.trans hcl)
        cases Option.some.inj (h2.symm.trans hc6)
        exact Or.inr ⟨hz0, _, hcl6, h3⟩)
  obtain ⟨t, a1, b1⟩ := kk (T.setVm vm') hT (X.noted hW')
  refine ⟨t, p_caught (s := T) (f := F0 m pc ls rest) X.here (vm' := vm') (pc := x.handlerPc) (fun Q E d acts => ?_) a1, b1⟩
  rw [W.findHandler_eq (meth := meth) (code := c) X.method' X.code, hsplit]
  exact hq Q E d acts
/-! the same rules for a method of which more is known -/
abbrev p_Cc : Type := q_G → State → MethodId → Array Value → Code → Prop
def p_Ex (Φ : p_Cc) (d a b : Nat) (M : q_Mt) (n : Nat) (t : Bool) (cf : q_Cf) (Q : q_Po) (X : q_Xo) : Prop :=
  ∀ (G : q_G) (p : Program) (l : Launch) (e : Env) (R : Room) (s : State) (m : MethodId) (args : Array Value) (below : List Frame) (meth : Method) (c : Code) (Z : State → Prop), Φ G s m args c →
    q_Cx G p l s m args c M.1 M.2.2.1 M.2.2.2.1 → d ≤ R.frames → 64 * d ≤ R.locals → q_RetOK G p l e R s m args below meth c Z t M.2.2.1 M.2.2.2.2 Q → q_ThrOK G p l e R s m args below meth c Z X →
    q_Go G p l e R s m args below meth c Z M.2.2.2.1 n t a b cf
theorem p_Ex_blk {Φ : p_Cc} {d a b : Nat} {M : q_Mt} {n : Nat} {t : Bool} {cf : q_Cf} {Q : q_Po} {X : q_Xo} (is : List q_RI) (cf' : q_Cf) (ps : List Prop) (hr : q_chk M.1 M.2.2.2.1 M.2.2.1 cf.1 is = true) (he : q_run n is cf = (cf', ps)) (hP : q_all ps) (k : p_Ex Φ d a b M n t cf' Q X) : p_Ex Φ d a b M n t cf Q X := by
  intro G p l e R s m args below meth c Z hΦ C h1 h2 h3 h4
  refine q_blk C is hr (by rw [he]; exact hP) ?_
  rw [he]
  exact k G p l e R s m args below meth c Z hΦ C h1 h2 h3 h4
theorem p_Ex_ret {Φ : p_Cc} {d a b : Nat} {M : q_Mt} {n : Nat} {t : Bool} {pc : Nat} {L : List (Option Value)} {w : q_Mem} {Q : q_Po} {X : q_Xo} (r : Option Value) (hd : decode M.2.2.1 pc = .ok (q_rins r, 1)) (hn : q_nar M.2.2.2.2 r) (hQ : Q r n w) : p_Ex Φ d a b M n t (pc, L, r.toList, w) Q X := by
  intro G p l e R s m args below meth c Z hΦ C h1 h2 h3 h4 H locs cells slots ls g1 g0 g2 g3 g4 g5
  exact h3 r n w H locs cells slots ls pc hQ hn g1 g0 g2 (by omega) (by omega) hd
theorem p_Ex_icmp {Φ : p_Cc} {d a b : Nat} {M : q_Mt} {n : Nat} {t : Bool} {pc : Nat} {L : List (Option Value)} {st : List Value} {x y : Int32} {w : q_Mem} {Q : q_Po} {X : q_Xo} {cd : ClassFile.Cond} {off : Int} (tgt : Nat) (hd : decode M.2.2.1 pc = .ok (.if_icmp cd off, 3)) (ht : (pc : Int) + off = (tgt : Int))
    (k1 : q_cnd cd x y → p_Ex Φ d a b M n t (tgt, L, st, w) Q X) (k2 : ¬ q_cnd cd x y → p_Ex Φ d a b M n t (pc + 3, L, st, w) Q X) : p_Ex Φ d a b M n t (pc, L, .int y :: .int x :: st, w) Q X := by
  intro G p l e R s m args below meth c Z hΦ C h1 h2 h3 h4 H locs cells slots ls g1 g0 g2 g3 g4 g5
  have c1 := fun h => k1 h G p l e R s m args below meth c Z hΦ C h1 h2 h3 h4 H locs cells slots ls g1 g0 g2 g3 g4 g5
  have c2 := fun h => k2 h G p l e R s m args below meth c Z hΦ C h1 h2 h3 h4 H locs cells slots ls g1 g0 g2 g3 g4 g5
  obtain ⟨hexec, hb, -⟩ := C
  cases cd with
  | eq => exact lv_icmp_eq hexec hb hd ht c1 c2
  | ne => exact lv_icmp_ne hexec hb hd ht c1 (fun h => c2 (fun h9 => h9 h))
  | lt => exact lv_icmp_lt hexec hb hd ht c1 c2
  | ge => exact lv_icmp_ge hexec hb hd ht c1 c2
  | gt => exact lv_icmp_gt hexec hb hd ht c1 c2
  | le => exact lv_icmp_le hexec hb hd ht c1 c2
theorem p_Ex_if {Φ : p_Cc} {d a b : Nat} {M : q_Mt} {n : Nat} {t : Bool} {pc : Nat} {L : List (Option Value)} {st : List Value} {x : Int32} {w : q_Mem} {Q : q_Po} {X : q_Xo} {cd : ClassFile.Cond} {off : Int} (tgt : Nat) (hd : decode M.2.2.1 pc = .ok (.ifCond cd off, 3)) (ht : (pc : Int) + off = (tgt : Int))
    (k1 : q_cnd cd x 0 → p_Ex Φ d a b M n t (tgt, L, st, w) Q X) (k2 : ¬ q_cnd cd x 0 → p_Ex Φ d a b M n t (pc + 3, L, st, w) Q X) : p_Ex Φ d a b M n t (pc, L, .int x :: st, w) Q X := by
  intro G p l e R s m args below meth c Z hΦ C h1 h2 h3 h4 H locs cells slots ls g1 g0 g2 g3 g4 g5
  have c1 := fun h => k1 h G p l e R s m args below meth c Z hΦ C h1 h2 h3 h4 H locs cells slots ls g1 g0 g2 g3 g4 g5
  have c2 := fun h => k2 h G p l e R s m args below meth c Z hΦ C h1 h2 h3 h4 H locs cells slots ls g1 g0 g2 g3 g4 g5
  obtain ⟨hexec, hb, -⟩ := C
  cases cd with
  | eq => exact lv_if_eq hexec hb hd ht c1 c2
  | ne => exact lv_if_ne hexec hb hd ht c1 (fun h => c2 (fun h9 => h9 h))
  | lt => exact lv_if_lt hexec hb hd ht c1 c2
  | ge => exact lv_if_ge hexec hb hd ht c1 c2
  | gt => exact lv_if_gt hexec hb hd ht c1 c2
  | le => exact lv_if_le hexec hb hd ht c1 c2
theorem p_Ex_mono {Φ : p_Cc} {d a b : Nat} {M : q_Mt} {n : Nat} {t : Bool} {cf : q_Cf} {Q Q' : q_Po} {X X' : q_Xo} (h : p_Ex Φ d a b M n t cf Q X) (hQ : ∀ r n' w', Q r n' w' → Q' r n' w') (hX : ∀ E n' w', X E n' w' → X' E n' w') : p_Ex Φ d a b M n t cf Q' X' := by
  intro G p l e R s m args below meth c Z hΦ C h1 h2 h3 h4
  exact h G p l e R s m args below meth c Z hΦ C h1 h2 (fun r n' w' H locs cells slots ls pc hq => h3 r n' w' H locs cells slots ls pc (hQ _ _ _ hq)) (fun E n' w' H locs cells slots ls pc rest q ce hx => h4 E n' w' H locs cells slots ls pc rest q ce (hX _ _ _ hx))
section PCall
variable {Φ : p_Cc} {d a b d' a' b' n k idx x id pc : Nat} {M M' : q_Mt} {t : Bool} {L : List (Option Value)} {st As : List Value} {w : q_Mem} {Q Q1 : q_Po} {X X1 : q_Xo}
theorem p_Ex_callV (hm : q_mokV M' x k) (hl : Cond.methodLink (q_own M.1) idx M'.2.1 ∈ q_TB) (hdec : decode M.2.2.1 pc = .ok (.invokevirtual idx, 3)) (E : q_Ev d' a' b' M' n t w (.ref id :: As) Q1 X1) (hid : q_id n x id) (hlen : As.length = k) (hst : (st.map fun v => v.category).sum ≤ 8)
    (hd : d' + 1 ≤ d) (ha : a' ≤ a) (hb : b' ≤ b) (ht : t = true → ∀ r n' w', Q1 r n' w' → n' = n + a')
    (kk : ∀ r n' w', Q1 r n' w' → p_Ex Φ d (a - a') (b - b') M n' t (pc + 3, L, r.toList ++ st, w') Q X) (kx : ∀ E n' w', X1 E n' w' → X E n' w') : p_Ex Φ d a b M n t (pc, L, As.reverse ++ .ref id :: st, w) Q X := by
  intro G p l e R s m args below meth c Z hΦ C h1 h2 h3 h4 H locs cells slots ls g1 g0 g2 g3 g4 g5 T hT X9
  obtain ⟨hx13, hcls, hws, hy, hnL⟩ := hm
  obtain ⟨⟨i1, i2⟩, i3⟩ := hid
  have Cc := C
  obtain ⟨hexec, hbb, hml, hown, hts, hK, hF, hlt⟩ := C
  have hM := E l G hlt
  have he : (q_ws G n w)[id - 1]? = some (G.2.2.1 + id, .inr (x, (List.range (q_N x)).map (q_fv G w id x))) := by
    rw [q_ws_get i1 i2, q_cell_obj i3 hx13]
  have g1 : q_hd G n w H := g1
  have hsz : t = true → H.size = G.2.2.1 + n + 1 := fun h9 => q_tight g1 (by omega) hT X9 (g0 h9)
  have cw : CallW R s args (q_own M.1) (q_own x) idx M'.2.1 M'.2.2.1 M'.2.2.2.1 M'.2.2.2.2 (q_wd M') (q_rm d' a' b') a' b' k := by
    refine cwV k hts (q_in_good ?_) rfl rfl rfl ⟨hcls, hy⟩ ⟨?_, ?_⟩
    · intro w9 hw9
      unfold wsV at hw9
      rcases List.mem_append.mp hw9 with h9 | h9
      · rcases List.mem_cons.mp h9 with rfl | h9
        · exact hl
        · rcases List.mem_cons.mp h9 with rfl | h9
          · exact hws _ List.mem_cons_self
          · rcases List.mem_cons.mp h9 with rfl | h9
            · exact hws _ (by simp)
            · rcases List.mem_cons.mp h9 with rfl | h9
              · exact hws _ (by simp)
              · cases h9
      · rcases List.mem_cons.mp h9 with rfl | h9
        · exact hws _ (by simp)
        · exact h9
    · show d' + 1 ≤ R.frames
      omega
    · show 8 + (M'.2.2.2.1 + 11) + 64 * d' ≤ R.locals
      omega
  have hp : PreV s H (q_own x) (G.2.2.1 + id) (q_Pc G n t w (.ref id :: As)) (As.map (q_tv G)) := by
    refine ⟨q_Pc_blind, va_recv hK.1 g1 (q_cl hx13) he, fun U hU hW => ⟨?_, ?_, fun h9 => (by rw [hU]; exact hsz h9), q_K.warm hW hK, ?_⟩⟩
    · rw [List.map_cons, q_tv_pos G i1]
    · show q_hd G n w U.heap
      rw [hU]; exact g1
    · rw [hU]; exact q_F.moved hW.alike (q_F.kept hF (fun q hq hA => g2.2.1 q hq hA))
  have hrun := vx_runV (e := e) (below := below) (meth := meth) (locs := locs) (cells := cells) (slots := slots) (g := F0 m pc ls ((As.reverse ++ .ref id :: st).map (q_tv G))) (rest := st.map (q_tv G)) ⟨hexec, hbb, hml, hown, hts⟩ hM cw hp rfl (by rw [List.length_map]; exact hlen) g3.1
    (by show (As.reverse ++ .ref id :: st).map (q_tv G) = _
        rw [List.map_append, List.map_reverse, List.map_cons, q_tv_pos G i1])
    (by show 2 * 0 + _ ≤ 8
        rw [q_cats]; omega) hdec ⟨by omega, by omega⟩
  rcases hrun T hT X9 with ⟨v, st₀, u, T', L9, e0, X', hL, e1, e2, ⟨⟨r, n', w', hr, hQ, hh⟩, hva⟩, hgo⟩ | ⟨q, st₀, u, T', L9, E9, ce, e0, X', hL, e1, e2, ⟨⟨n', w', hX, hh⟩, hva⟩, c1, c2, c3, hgo⟩
  · cases hr
    have hS : va_S (q_A G) s.heap T'.heap (locs ++ L9) := by
      rw [e1]
      refine ⟨Nat.le_trans g2.1 (by rw [← e0]; exact hva.1), fun q hq hA => ?_, fun z hz => ?_⟩
      · rw [hva.2 q (by rw [e0]; exact Nat.lt_of_lt_of_le hq g2.1) hA, e0]
        exact g2.2.1 q hq hA
      · rcases List.mem_append.mp hz with h9 | h9
        · exact g2.2.2 z h9
        · exact hL z h9
    obtain ⟨t2, a1, b1⟩ := kk r n' w' hQ G p l e R s m args below meth c Z hΦ Cc h1 h2 h3 h4 T'.heap (locs ++ L9) (cells + a') (slots + b') ls (by rw [e1]; exact hh) (fun h9 => by have := g0 h9; have := ht h9 r n' w' hQ; omega) hS g3 (by omega) (by omega) T' rfl X'
    refine ⟨t2, hgo t2 ?_, b1⟩
    have e9 : (r.toList ++ st).map (q_tv G) = (r.map (q_tv G)).toList ++ st.map (q_tv G) := by
      cases r <;> rfl
    rw [← e9]
    exact a1
  · have hS : va_S (q_A G) s.heap T'.heap (locs ++ L9) := by
      rw [e1]
      refine ⟨Nat.le_trans g2.1 (by rw [← e0]; exact hva.1), fun q hq hA => ?_, fun z hz => ?_⟩
      · rw [hva.2 q (by rw [e0]; exact Nat.lt_of_lt_of_le hq g2.1) hA, e0]
        exact g2.2.1 q hq hA
      · rcases List.mem_append.mp hz with h9 | h9
        · exact g2.2.2 z h9
        · exact hL z h9
    obtain ⟨t2, a1, b1⟩ := h4 E9 n' w' T'.heap (locs ++ L9) (cells + a') (slots + b') ls pc (st.map (q_tv G)) q ce (kx _ _ _ hX) (by rw [e1]; exact hh) hS (by omega) (by omega) (by rw [e1]; exact c1) c2 c3 T' rfl X'
    exact ⟨t2, hgo.trans a1, b1⟩
theorem p_Ex_callS (hm : q_mokS M' k) (hn : 0 < n) (hl : Cond.methodLink (q_own M.1) idx M'.2.1 ∈ q_TB) (hdec : decode M.2.2.1 pc = .ok (.invokestatic idx, 3)) (E : q_Ev d' a' b' M' n t w As Q1 X1) (hlen : As.length = k) (hst : (st.map fun v => v.category).sum ≤ 8)
    (hd : d' + 1 ≤ d) (ha : a' ≤ a) (hb : b' ≤ b) (ht : t = true → ∀ r n' w', Q1 r n' w' → n' = n + a')
    (kk : ∀ r n' w', Q1 r n' w' → p_Ex Φ d (a - a') (b - b') M n' t (pc + 3, L, r.toList ++ st, w') Q X) (kx : ∀ E n' w', X1 E n' w' → X E n' w') : p_Ex Φ d a b M n t (pc, L, As.reverse ++ st, w) Q X := by
  intro G p l e R s m args below meth c Z hΦ C h1 h2 h3 h4 H locs cells slots ls g1 g0 g2 g3 g4 g5 T hT X9
  obtain ⟨hws, hy, hnL⟩ := hm
  have Cc := C
  obtain ⟨hexec, hbb, hml, hown, hts, hK, hF, hlt⟩ := C
  have hM := E l G hlt
  have g1 : q_hd G n w H := g1
  have hsz : t = true → H.size = G.2.2.1 + n + 1 := fun h9 => q_tight g1 hn hT X9 (g0 h9)
  have cw : CallB R s args (q_own M.1) idx M'.2.1 M'.2.2.1 M'.2.2.2.1 M'.2.2.2.2 (q_wd M') (q_rm d' a' b') a' b' k ∧ (Cond.static M'.2.1).before args s = true := by
    refine ⟨callB_of k hts (q_in_good ?_) rfl rfl rfl (hts _ (hws _ (by simp))) (hts _ hl) hy ⟨?_, ?_⟩, hts _ (hws _ List.mem_cons_self)⟩
    · intro w9 h9
      rcases List.mem_cons.mp h9 with rfl | h9
      · exact hws _ (by simp)
      · exact h9
    · show d' + 1 ≤ R.frames
      omega
    · show 8 + (M'.2.2.2.1 + 11) + 64 * d' ≤ R.locals
      omega
  have hp : PreS s H (q_Pc G n t w As) (As.map (q_tv G)) := by
    refine ⟨q_Pc_blind, fun U hU hW => ⟨rfl, ?_, fun h9 => (by rw [hU]; exact hsz h9), q_K.warm hW hK, ?_⟩⟩
    · show q_hd G n w U.heap
      rw [hU]; exact g1
    · rw [hU]; exact q_F.moved hW.alike (q_F.kept hF (fun q hq hA => g2.2.1 q hq hA))
  have hrun := vx_runS (e := e) (below := below) (meth := meth) (locs := locs) (cells := cells) (slots := slots) (g := F0 m pc ls ((As.reverse ++ st).map (q_tv G))) (rest := st.map (q_tv G)) ⟨hexec, hbb, hml, hown, hts⟩ hM cw hp rfl (by rw [List.length_map]; exact hlen) g3.1
    (by show (As.reverse ++ st).map (q_tv G) = _
        rw [List.map_append, List.map_reverse])
    (by show 2 * 0 + _ ≤ 8
        rw [q_cats]; omega) hdec ⟨by omega, by omega⟩
  rcases hrun T hT X9 with ⟨v, st₀, u, T', L9, e0, X', hL, e1, e2, ⟨⟨r, n', w', hr, hQ, hh⟩, hva⟩, hgo⟩ | ⟨q, st₀, u, T', L9, E9, ce, e0, X', hL, e1, e2, ⟨⟨n', w', hX, hh⟩, hva⟩, c1, c2, c3, hgo⟩
  · cases hr
    have hS : va_S (q_A G) s.heap T'.heap (locs ++ L9) := by
      rw [e1]
      refine ⟨Nat.le_trans g2.1 (by rw [← e0]; exact hva.1), fun q hq hA => ?_, fun z hz => ?_⟩
      · rw [hva.2 q (by rw [e0]; exact Nat.lt_of_lt_of_le hq g2.1) hA, e0]
        exact g2.2.1 q hq hA
      · rcases List.mem_append.mp hz with h9 | h9
        · exact g2.2.2 z h9
        · exact hL z h9
    obtain ⟨t2, a1, b1⟩ := kk r n' w' hQ G p l e R s m args below meth c Z hΦ Cc h1 h2 h3 h4 T'.heap (locs ++ L9) (cells + a') (slots + b') ls (by rw [e1]; exact hh) (fun h9 => by have := g0 h9; have := ht h9 r n' w' hQ; omega) hS g3 (by omega) (by omega) T' rfl X'
    refine ⟨t2, hgo t2 ?_, b1⟩
    have e9 : (r.toList ++ st).map (q_tv G) = (r.map (q_tv G)).toList ++ st.map (q_tv G) := by
      cases r <;> rfl
    rw [← e9]
    exact a1
  · have hS : va_S (q_A G) s.heap T'.heap (locs ++ L9) := by
      rw [e1]
      refine ⟨Nat.le_trans g2.1 (by rw [← e0]; exact hva.1), fun q hq hA => ?_, fun z hz => ?_⟩
      · rw [hva.2 q (by rw [e0]; exact Nat.lt_of_lt_of_le hq g2.1) hA, e0]
        exact g2.2.1 q hq hA
      · rcases List.mem_append.mp hz with h9 | h9
        · exact g2.2.2 z h9
        · exact hL z h9
    obtain ⟨t2, a1, b1⟩ := h4 E9 n' w' T'.heap (locs ++ L9) (cells + a') (slots + b') ls pc (st.map (q_tv G)) q ce (kx _ _ _ hX) (by rw [e1]; exact hh) hS (by omega) (by omega) (by rw [e1]; exact c1) c2 c3 T' rfl X'
    exact ⟨t2, hgo.trans a1, b1⟩
end PCall
