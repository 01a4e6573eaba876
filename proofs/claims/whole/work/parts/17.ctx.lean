/-! a throw that is caught in the method itself -/
section PCatch
variable {e : Env} {f : JFrame} {a : Addr}
/-- a row of the table that names a class which the thrown thing is not of: the search goes on behind it -/
theorem p_goNo {s : State} {Q : Handler → Pre} {E : CtlPost} {d : Bool} {acts : List Action} {x : ExceptionTableEntry} {t : List ExceptionTableEntry} {c : ClassId} {cell : Cell} (hx : covers x f.pc = true) (h0 : x.catchType ≠ 0)
    (hl : s.vm.ClassLinks e.platform f.method.cls x.catchType c) (hcell : s.heap[a]? = some cell) (hobj : ∀ k, cell.vm ≠ .statics k)
    (hk : ∃ k, s.vm.classes[cell.cls]? = some k) (hc : ∃ k, s.vm.classes[c]? = some k) (hno : s.vm.assignable cell.cls c = false) :
    wp (findHandler.go f a (x :: t)) Q E e d acts s ↔ wp (findHandler.go f a t) Q E e d acts (s.setVm (s.vm.noted f.method.cls x.catchType (.cls c))) := by
  simp only [covers] at hx
  obtain ⟨r1, r2⟩ := (resolveClass_links e.toSetting hl).op (op := VmOp.resolveClass f.method.cls x.catchType) rfl
  have al : s.vm.Alike (s.vm.noted f.method.cls x.catchType (.cls c)) := (Vm.Alike.refl s.vm).noted _ _ _
  obtain ⟨_, h1⟩ := hk
  obtain ⟨_, h2⟩ := hc
  obtain ⟨_, h3, -⟩ := al.2.2 _ _ h1
  obtain ⟨_, h4, -⟩ := al.2.2 _ _ h2
  have h5 : (s.vm.noted f.method.cls x.catchType (.cls c)).assignable cell.cls c = false := by rw [al.assignable]; exact hno
  simp [findHandler.go, hx, h0, r1, r2, hcell, hobj, h3, h4, h5, VmOp.dirties, VmOp.acts]
theorem p_goYes {s : State} {Q : Handler → Pre} {E : CtlPost} {d : Bool} {acts : List Action} {x : ExceptionTableEntry} {t : List ExceptionTableEntry} {c : ClassId} {cell : Cell} (hx : covers x f.pc = true) (h0 : x.catchType ≠ 0)
    (hl : s.vm.ClassLinks e.platform f.method.cls x.catchType c) (hcell : s.heap[a]? = some cell) (hobj : ∀ k, cell.vm ≠ .statics k)
    (hk : ∃ k, s.vm.classes[cell.cls]? = some k) (hc : ∃ k, s.vm.classes[c]? = some k) (hfit : s.vm.assignable cell.cls c = true) :
    wp (findHandler.go f a (x :: t)) Q E e d acts s ↔ Q (.found x.handlerPc) d acts (s.setVm (s.vm.noted f.method.cls x.catchType (.cls c))) := by
  simp only [covers] at hx
  obtain ⟨r1, r2⟩ := (resolveClass_links e.toSetting hl).op (op := VmOp.resolveClass f.method.cls x.catchType) rfl
  have al : s.vm.Alike (s.vm.noted f.method.cls x.catchType (.cls c)) := (Vm.Alike.refl s.vm).noted _ _ _
  obtain ⟨_, h1⟩ := hk
  obtain ⟨_, h2⟩ := hc
  obtain ⟨_, h3, -⟩ := al.2.2 _ _ h1
  obtain ⟨_, h4, -⟩ := al.2.2 _ _ h2
  have h5 : (s.vm.noted f.method.cls x.catchType (.cls c)).assignable cell.cls c = true := by rw [al.assignable]; exact hfit
  simp [findHandler.go, hx, h0, r1, r2, hcell, hobj, h3, h4, h5, VmOp.dirties, VmOp.acts]
def p_Fnd (e : Env) (s : State) (f : JFrame) (a : Addr) (pc : Nat) (vm' : Vm) : Prop :=
  ∀ (Q : Handler → Pre) (E : CtlPost) (d : Bool) (acts : List Action), wp (findHandler f a) Q E e d acts s ↔ Q (.found pc) d acts (s.setVm vm')
theorem p_stepC {s : State} {r : List Frame} {pc : Nat} {vm' : Vm} (h : p_Fnd e s f a pc vm') : (stepThrowing e s a (.java f :: r)).Is ((s.setVm vm').setFrames (.java { f with pc := pc, stack := [.ref a] } :: r)) [] := by
  simp only [stepThrowing, searchFrame, vmDo]
  generalize hr : Sem.go _ e false [] s = res
  obtain ⟨as, rfl, ha⟩ := Sem.eq_ok_of hr (a := Handler.found pc) (s' := s.setVm vm') (acts' := []) (by simp [h _ _ _ _])
  exact ⟨rfl, ha⟩
theorem p_svf (u : State) (vm' : Vm) (F G : List Frame) : ((u.setFrames F).setVm vm').setFrames G = (u.setVm vm').setFrames G := by
  rw [show (u.setFrames F).setVm vm' = (u.setVm vm').setFrames F from rfl, State.setFrames_setFrames]
theorem p_caught {tb : Tables} {s target : State} {c : Code} {below : List Frame} (h : At s f.method c below) {pc : Nat} {vm' : Vm}
    (hf : p_Fnd e ((s.setTop f).pushFrame (.throwing a)) f a pc vm') (hr : Steps tb e below ((s.setVm vm').setTop { f with pc := pc, stack := [.ref a] }) target) :
    Steps tb e below ((s.setTop f).pushFrame (.throwing a)) target := by
  obtain ⟨z1, z2⟩ := h.throwing a
  refine Steps.head z1 z2 ?_
  rw [stepThread_throwing (frames_entered h.top _), (p_stepC (s := (s.setTop f).pushFrame (.throwing a)) hf).1]
  obtain ⟨g0, hg⟩ := Option.isSome_iff_exists.mp h.top
  obtain ⟨r, hr0⟩ := State.topJava?_eq_some.mp hg
  have hr1 : (s.setVm vm').frames = .java g0 :: r := hr0
  rw [State.setTop_of_frames _ hr1] at hr
  rw [hr0, List.tail_cons, State.pushFrame, p_svf, State.setTop_of_frames _ hr0, p_svf]
  exact hr
/-- a row that is passed: it doesn't cover the place, or it names a class that the thrown thing is not of -/
def p_Pas (pl : Platform) (s₀ : State) (d : ClassId) (pc : Nat) (th : ClassId) (y : ExceptionTableEntry) : Prop :=
  covers y pc = false ∨ (y.catchType ≠ 0 ∧ ∃ c, s₀.vm.ClassLinks pl d y.catchType c ∧ s₀.vm.assignable th c = false)
theorem p_search {s₀ : State} {cell : Cell} (hobj : ∀ k, cell.vm ≠ .statics k) (hk0 : ∃ k, s₀.vm.classes[cell.cls]? = some k) (x : ExceptionTableEntry) (rest : List ExceptionTableEntry) (hx : covers x f.pc = true) (h0 : x.catchType ≠ 0) {c : ClassId} (hl : s₀.vm.ClassLinks e.platform f.method.cls x.catchType c) (hfit : s₀.vm.assignable cell.cls c = true) :
    ∀ (pre : List ExceptionTableEntry) (S : State), s₀.WarmedH S.vm → S.heap[a]? = some cell → (∀ y ∈ pre, p_Pas e.platform s₀ f.method.cls f.pc cell.cls y) →
      ∃ vm', s₀.WarmedH vm' ∧ ∀ (Q : Handler → Pre) (E : CtlPost) (d : Bool) (acts : List Action), wp (findHandler.go f a (pre ++ x :: rest)) Q E e d acts S ↔ Q (.found x.handlerPc) d acts (S.setVm vm') := by
  obtain ⟨k0, hk0⟩ := hk0
  intro pre
  induction pre with
  | nil =>
    intro S hW hcell _
    obtain ⟨k0', hk0', -⟩ := hW.alike.2.2 _ _ hk0
    obtain ⟨dk, _, _, kt, hd, _, _, _, _, hkt, _, hopen⟩ := hl.here
    obtain ⟨kt', hkt', -⟩ := hW.alike.2.2 _ _ hkt
    exact ⟨_, hW.noted hd hopen (State.rightAt_cls hl), fun Q E d acts => p_goYes hx h0 (hW.classLinks hl) hcell hobj ⟨k0', hk0'⟩ ⟨kt', hkt'⟩ (by rw [hW.alike.assignable]; exact hfit)⟩
  | cons y ys ih =>
    intro S hW hcell hpass
    obtain ⟨k0', hk0', -⟩ := hW.alike.2.2 _ _ hk0
    have hr : ∀ z ∈ ys, p_Pas e.platform s₀ f.method.cls f.pc cell.cls z := fun z hz => hpass z (List.mem_cons_of_mem _ hz)
    by_cases hcov : covers y f.pc = true
    · rcases hpass y List.mem_cons_self with h | ⟨hy0, cy, hly, hno⟩
      · rw [h] at hcov; cases hcov
      · obtain ⟨dk, _, _, kt, hd, _, _, _, _, hkt, _, hopen⟩ := hly.here
        obtain ⟨kt', hkt', -⟩ := hW.alike.2.2 _ _ hkt
        obtain ⟨vm', hW', hq⟩ := ih (S.setVm (S.vm.noted f.method.cls y.catchType (.cls cy))) (hW.noted hd hopen (State.rightAt_cls hly)) hcell hr
        exact ⟨vm', hW', fun Q E d acts => by
          rw [List.cons_append, p_goNo hcov hy0 (hW.classLinks hly) hcell hobj ⟨k0', hk0'⟩ ⟨kt', hkt'⟩ (by rw [hW.alike.assignable]; exact hno)]
          exact hq Q E d acts⟩
    · obtain ⟨vm', hW', hq⟩ := ih S hW hcell hr
      exact ⟨vm', hW', fun Q E d acts => by
        rw [List.cons_append, W.findHandler_go_skip (by simpa using hcov)]
        exact hq Q E d acts⟩
end PCatch
theorem p_catch {p : Program} {l : Launch} {e : Env} {R : Room} {s : State} {m : MethodId} {args : Array Value} {below : List Frame} {meth : Method} {c : Code} {H : Heap} {locs : List Loc} {cells slots pc : Nat} {Q : State → Prop} {ls : Array Slot} {rest : List Value} {own name E : String} {ce : Cell} {q : Addr} (hown : s.vm.findClass own = some m.cls) (pre : List ExceptionTableEntry) (x : ExceptionTableEntry) (suf : List ExceptionTableEntry) (hsplit : c.exceptionTable.toList = pre ++ x :: suf)
    (hpass : ∀ z ∈ pre, covers z pc = false ∨ (z.catchType ≠ 0 ∧ ∃ nm : String, (Cond.classLink own z.catchType nm).before args s = true ∧ va_Nc E nm s)) (hx : covers x pc = true) (h0 : x.catchType ≠ 0)
    (hlink : (Cond.classLink own x.catchType name).before args s = true) (hcast : (Cond.castable E name).before #[] s = true) (hcell : H[q]? = some ce) (hv : ce.vm = .none) (hcl : s.vm.findClass E = some ce.cls)
    (kk : W p l e R s m args below meth c H locs cells slots Q (F0 m x.handlerPc ls [.ref q])) : vx_W p l e R s m args below meth c H locs cells slots Q (F0 m pc ls rest) q := by
  intro T hT X
  have hpl : e.platform.magicAccessors = ({} : Platform).magicAccessors := by rw [X.admits.platform]
  obtain ⟨c3, c4, hc3, hc4, hasg⟩ := Cond.castable_spec hcast
  cases Option.some.inj (hc3.symm.trans hcl)
  obtain ⟨c5, hc5, hcl5⟩ := Cond.classLink_spec hown hlink e.platform hpl
  cases Option.some.inj (hc4.symm.trans hc5)
  obtain ⟨vm', hW', hq⟩ := p_search (e := e) (f := F0 m pc ls rest) (a := q) (s₀ := s) (cell := ce) (fun k h => by rw [hv] at h; cases h) (by obtain ⟨k9, h9, -⟩ := Vm.findClass_spec hcl; exact ⟨k9, h9⟩) x suf hx h0 hcl5 hasg pre ((T.setTop (F0 m pc ls rest)).pushFrame (.throwing q)) X.warmed (by rw [← hcell, ← hT]; rfl)
    (fun z hz => by
      rcases hpass z hz with h | ⟨hz0, nm, hl1, hn1⟩
      · exact Or.inl h
      · obtain ⟨c6, hc6, hcl6⟩ := Cond.classLink_spec hown hl1 e.platform hpl
        obtain ⟨a8, b8, h1, h2, h3⟩ := hn1
        cases Option.some.inj (h1.symm.trans hcl)
        cases Option.some.inj (h2.symm.trans hc6)
        exact Or.inr ⟨hz0, _, hcl6, h3⟩)
  obtain ⟨t, a1, b1⟩ := kk (T.setVm vm') hT (X.noted hW')
  refine ⟨t, p_caught (s := T) (f := F0 m pc ls rest) X.here (vm' := vm') (pc := x.handlerPc) (fun Q E d acts => ?_) a1, b1⟩
  rw [W.findHandler_eq (meth := meth) (code := c) X.method' X.code, hsplit]
  exact hq Q E d acts
/-! the same rules for a method of which more is known -/
abbrev p_Cc : Type := q_G → State → MethodId → Array Value → Code → Prop
def p_Ex (Φ : p_Cc) (d a b : Nat) (M : q_Mt) (n : Nat) (t : Bool) (cf : q_Cf) (Q : q_Po) (X : q_Xo) : Prop :=
  ∀ (G : q_G) (p : Program) (l : Launch) (e : Env) (R : Room) (s : State) (m : MethodId) (args : Array Value) (below : List Frame) (meth : Method) (c : Code) (Z : State → Prop), Φ G s m args c →
    q_Cx G p l s m args c M.1 M.2.2.1 M.2.2.2.1 → d ≤ R.frames → 64 * d ≤ R.locals → q_RetOK G p l e R s m args below meth c Z t M.2.2.1 M.2.2.2.2 Q → q_ThrOK G p l e R s m args below meth c Z X →
    q_Go G p l e R s m args below meth c Z M.2.2.2.1 n t a b cf
theorem p_Ex_blk {Φ : p_Cc} {d a b : Nat} {M : q_Mt} {n : Nat} {t : Bool} {cf : q_Cf} {Q : q_Po} {X : q_Xo} (is : List q_RI) (cf' : q_Cf) (ps : List Prop) (hr : q_chk M.1 M.2.2.2.1 M.2.2.1 cf.1 is = true) (he : q_run n is cf = (cf', ps)) (hP : q_all ps) (k : p_Ex Φ d a b M n t cf' Q X) : p_Ex Φ d a b M n t cf Q X := by
  intro G p l e R s m args below meth c Z hΦ C h1 h2 h3 h4
  refine q_blk C is hr (by rw [he]; exact hP) ?_
  rw [he]
  exact k G p l e R s m args below meth c Z hΦ C h1 h2 h3 h4
theorem p_Ex_ret {Φ : p_Cc} {d a b : Nat} {M : q_Mt} {n : Nat} {t : Bool} {pc : Nat} {L : List (Option Value)} {w : q_Mem} {Q : q_Po} {X : q_Xo} (r : Option Value) (hd : decode M.2.2.1 pc = .ok (q_rins r, 1)) (hn : q_nar M.2.2.2.2 r) (hQ : Q r n w) : p_Ex Φ d a b M n t (pc, L, r.toList, w) Q X := by
  intro G p l e R s m args below meth c Z hΦ C h1 h2 h3 h4 H locs cells slots ls g1 g0 g2 g3 g4 g5
  exact h3 r n w H locs cells slots ls pc hQ hn g1 g0 g2 (by omega) (by omega) hd
theorem p_Ex_icmp {Φ : p_Cc} {d a b : Nat} {M : q_Mt} {n : Nat} {t : Bool} {pc : Nat} {L : List (Option Value)} {st : List Value} {x y : Int32} {w : q_Mem} {Q : q_Po} {X : q_Xo} {cd : ClassFile.Cond} {off : Int} (tgt : Nat) (hd : decode M.2.2.1 pc = .ok (.if_icmp cd off, 3)) (ht : (pc : Int) + off = (tgt : Int))
    (k1 : q_cnd cd x y → p_Ex Φ d a b M n t (tgt, L, st, w) Q X) (k2 : ¬ q_cnd cd x y → p_Ex Φ d a b M n t (pc + 3, L, st, w) Q X) : p_Ex Φ d a b M n t (pc, L, .int y :: .int x :: st, w) Q X := by
  intro G p l e R s m args below meth c Z hΦ C h1 h2 h3 h4 H locs cells slots ls g1 g0 g2 g3 g4 g5
  have c1 := fun h => k1 h G p l e R s m args below meth c Z hΦ C h1 h2 h3 h4 H locs cells slots ls g1 g0 g2 g3 g4 g5
  have c2 := fun h => k2 h G p l e R s m args below meth c Z hΦ C h1 h2 h3 h4 H locs cells slots ls g1 g0 g2 g3 g4 g5
  obtain ⟨hexec, hb, -⟩ := C
  cases cd with
  | eq => exact lv_icmp_eq hexec hb hd ht c1 c2
  | ne => exact lv_icmp_ne hexec hb hd ht c1 (fun h => c2 (fun h9 => h9 h))
  | lt => exact lv_icmp_lt hexec hb hd ht c1 c2
  | ge => exact lv_icmp_ge hexec hb hd ht c1 c2
  | gt => exact lv_icmp_gt hexec hb hd ht c1 c2
  | le => exact lv_icmp_le hexec hb hd ht c1 c2
theorem p_Ex_if {Φ : p_Cc} {d a b : Nat} {M : q_Mt} {n : Nat} {t : Bool} {pc : Nat} {L : List (Option Value)} {st : List Value} {x : Int32} {w : q_Mem} {Q : q_Po} {X : q_Xo} {cd : ClassFile.Cond} {off : Int} (tgt : Nat) (hd : decode M.2.2.1 pc = .ok (.ifCond cd off, 3)) (ht : (pc : Int) + off = (tgt : Int))
    (k1 : q_cnd cd x 0 → p_Ex Φ d a b M n t (tgt, L, st, w) Q X) (k2 : ¬ q_cnd cd x 0 → p_Ex Φ d a b M n t (pc + 3, L, st, w) Q X) : p_Ex Φ d a b M n t (pc, L, .int x :: st, w) Q X := by
  intro G p l e R s m args below meth c Z hΦ C h1 h2 h3 h4 H locs cells slots ls g1 g0 g2 g3 g4 g5
  have c1 := fun h => k1 h G p l e R s m args below meth c Z hΦ C h1 h2 h3 h4 H locs cells slots ls g1 g0 g2 g3 g4 g5
  have c2 := fun h => k2 h G p l e R s m args below meth c Z hΦ C h1 h2 h3 h4 H locs cells slots ls g1 g0 g2 g3 g4 g5
  obtain ⟨hexec, hb, -⟩ := C
  cases cd with
  | eq => exact lv_if_eq hexec hb hd ht c1 c2
  | ne => exact lv_if_ne hexec hb hd ht c1 (fun h => c2 (fun h9 => h9 h))
  | lt => exact lv_if_lt hexec hb hd ht c1 c2
  | ge => exact lv_if_ge hexec hb hd ht c1 c2
  | gt => exact lv_if_gt hexec hb hd ht c1 c2
  | le => exact lv_if_le hexec hb hd ht c1 c2
theorem p_Ex_mono {Φ : p_Cc} {d a b : Nat} {M : q_Mt} {n : Nat} {t : Bool} {cf : q_Cf} {Q Q' : q_Po} {X X' : q_Xo} (h : p_Ex Φ d a b M n t cf Q X) (hQ : ∀ r n' w', Q r n' w' → Q' r n' w') (hX : ∀ E n' w', X E n' w' → X' E n' w') : p_Ex Φ d a b M n t cf Q' X' := by
  intro G p l e R s m args below meth c Z hΦ C h1 h2 h3 h4
  exact h G p l e R s m args below meth c Z hΦ C h1 h2 (fun r n' w' H locs cells slots ls pc hq => h3 r n' w' H locs cells slots ls pc (hQ _ _ _ hq)) (fun E n' w' H locs cells slots ls pc rest q ce hx => h4 E n' w' H locs cells slots ls pc rest q ce (hX _ _ _ hx))
/-- a store of what is not known here: the place is forgotten -/
def p_fg (L : List (Option Value)) (i : Nat) : List (Option Value) := ((if i = 0 then L else if q_isL (L.getD (i - 1) none) then L.set (i - 1) none else L).set i none)
theorem q_lv.pfg {G : q_G} {ls' : Array Slot} {nL : Nat} {L : List (Option Value)} {i : Nat} {v9 : Value}
    (h : lv_has ls' nL ((i, v9) :: (q_as G L).filter (fun q => !(q.1 == i) && !(q.1 + 1 == i && q.2.category == 2)))) : q_lv G ls' nL (p_fg L i) := by
  refine ⟨h.1, h.2.1, fun j u hj => ?_⟩
  unfold p_fg at hj
  rw [List.getElem?_set] at hj
  by_cases hij : i = j
  · subst hij
    rw [if_pos rfl] at hj
    rw [Option.ite_none_right_eq_some] at hj
    obtain ⟨-, hj⟩ := hj
    cases hj
  · rw [if_neg hij] at hj
    have key : L[j]? = some (some u) ∧ ¬ (j + 1 = i ∧ u.category = 2) := by
      by_cases h0 : i = 0
      · rw [if_pos h0] at hj
        exact ⟨hj, fun hh => by omega⟩
      · rw [if_neg h0] at hj
        by_cases hL : q_isL (L.getD (i - 1) none) = true
        · rw [if_pos hL, List.getElem?_set] at hj
          by_cases hj1 : i - 1 = j
          · rw [if_pos hj1] at hj
            split at hj <;> cases hj
          · rw [if_neg hj1] at hj
            exact ⟨hj, fun hh => by omega⟩
        · rw [if_neg hL] at hj
          refine ⟨hj, fun hh => ?_⟩
          have e1 : j = i - 1 := by omega
          subst e1
          have e2 : L.getD (i - 1) none = some u := by rw [List.getD_eq_getElem?_getD, hj]; rfl
          rw [e2] at hL
          exact q_isL_cat (by simpa using hL) hh.2
    refine h.2.2 (j, q_tv G u) (List.mem_cons_of_mem _ (List.mem_filter.mpr ⟨q_as_mem key.1, ?_⟩))
    have k2 := key.2
    have hji : ¬ j = i := fun e => hij e.symm
    simp only [q_tv_cat, Bool.and_eq_true, Bool.not_eq_true', beq_eq_false_iff_ne, ne_eq, hji, not_false_eq_true, true_and]
    rw [Bool.and_eq_false_iff]
    by_cases a1 : j + 1 = i
    · right
      simpa using fun e => k2 ⟨a1, e⟩
    · left
      simpa using a1
/-- E, thrown at pc, is caught: by which row, and where it goes on -/
def p_Han (Φ : p_Cc) (M : q_Mt) (pc : Nat) (E : String) (K : Nat × Nat → Prop) : Prop := ∃ (pre : List ExceptionTableEntry) (xh : ExceptionTableEntry) (suf : List ExceptionTableEntry) (name : String) (j len : Nat),
  (∀ G s m args c, Φ G s m args c → c.exceptionTable.toList = pre ++ xh :: suf ∧ ∀ z ∈ pre, covers z pc = false ∨ (z.catchType ≠ 0 ∧ ∃ nm : String, Cond.classLink (q_own M.1) z.catchType nm ∈ q_TB ∧ va_Nc E nm s)) ∧ covers xh pc = true ∧ xh.catchType ≠ 0 ∧ Cond.classLink (q_own M.1) xh.catchType name ∈ q_TB ∧ (E, name) ∈ q_CA ∧
  ((∃ k : Fin 4, (k : Nat) = j ∧ len = 1 ∧ decode M.2.2.1 xh.handlerPc = .ok (.astore_n k, 1)) ∨ (len = 2 ∧ decode M.2.2.1 xh.handlerPc = .ok (.astore j, 2))) ∧ j < M.2.2.2.1 ∧ K (xh.handlerPc + len, j)
section PCall
variable {Φ : p_Cc} {d a b d' a' b' n k idx x id pc : Nat} {M M' : q_Mt} {t : Bool} {L : List (Option Value)} {st As : List Value} {w : q_Mem} {Q Q1 : q_Po} {X X1 : q_Xo}
theorem p_Ex_callV (hm : q_mokV M' x k) (hl : Cond.methodLink (q_own M.1) idx M'.2.1 ∈ q_TB) (hdec : decode M.2.2.1 pc = .ok (.invokevirtual idx, 3)) (E : q_Ev d' a' b' M' n t w (.ref id :: As) Q1 X1) (hid : q_id n x id) (hlen : As.length = k) (hst : (st.map fun v => v.category).sum ≤ 8)
    (hd : d' + 1 ≤ d) (ha : a' ≤ a) (hb : b' ≤ b) (ht : t = true → ∀ r n' w', Q1 r n' w' → n' = n + a')
    (kk : ∀ r n' w', Q1 r n' w' → p_Ex Φ d (a - a') (b - b') M n' t (pc + 3, L, r.toList ++ st, w') Q X) (kx : ∀ E n' w', X1 E n' w' → X E n' w') : p_Ex Φ d a b M n t (pc, L, As.reverse ++ .ref id :: st, w) Q X := by
  intro G p l e R s m args below meth c Z hΦ C h1 h2 h3 h4 H locs cells slots ls g1 g0 g2 g3 g4 g5 T hT X9
  obtain ⟨hx13, hcls, hws, hy, hnL⟩ := hm
  obtain ⟨⟨i1, i2⟩, i3⟩ := hid
  have Cc := C
  obtain ⟨hexec, hbb, hml, hown, hts, hK, hF, hlt⟩ := C
  have hM := E l G hlt
  have he : (q_ws G n w)[id - 1]? = some (G.2.2.1 + id, .inr (x, (List.range (q_N x)).map (q_fv G w id x))) := by
    rw [q_ws_get i1 i2, q_cell_obj i3 hx13]
  have g1 : q_hd G n w H := g1
  have hsz : t = true → H.size = G.2.2.1 + n + 1 := fun h9 => q_tight g1 (by omega) hT X9 (g0 h9)
  have cw : CallW R s args (q_own M.1) (q_own x) idx M'.2.1 M'.2.2.1 M'.2.2.2.1 M'.2.2.2.2 (q_wd M') (q_rm d' a' b') a' b' k := by
    refine cwV k hts (q_in_good ?_) rfl rfl rfl ⟨hcls, hy⟩ ⟨?_, ?_⟩
    · intro w9 hw9
      unfold wsV at hw9
      rcases List.mem_append.mp hw9 with h9 | h9
      · rcases List.mem_cons.mp h9 with rfl | h9
        · exact hl
        · rcases List.mem_cons.mp h9 with rfl | h9
          · exact hws _ List.mem_cons_self
          · rcases List.mem_cons.mp h9 with rfl | h9
            · exact hws _ (by simp)
            · rcases List.mem_cons.mp h9 with rfl | h9
              · exact hws _ (by simp)
              · cases h9
      · rcases List.mem_cons.mp h9 with rfl | h9
        · exact hws _ (by simp)
        · exact h9
    · show d' + 1 ≤ R.frames
      omega
    · show 8 + (M'.2.2.2.1 + 11) + 64 * d' ≤ R.locals
      omega
  have hp : PreV s H (q_own x) (G.2.2.1 + id) (q_Pc G n t w (.ref id :: As)) (As.map (q_tv G)) := by
    refine ⟨q_Pc_blind, va_recv hK.1 g1 (q_cl hx13) he, fun U hU hW => ⟨?_, ?_, fun h9 => (by rw [hU]; exact hsz h9), q_K.warm hW hK, ?_⟩⟩
    · rw [List.map_cons, q_tv_pos G i1]
    · show q_hd G n w U.heap
      rw [hU]; exact g1
    · rw [hU]; exact q_F.moved hW.alike (q_F.kept hF (fun q hq hA => g2.2.1 q hq hA))
  have hrun := vx_runV (e := e) (below := below) (meth := meth) (locs := locs) (cells := cells) (slots := slots) (g := F0 m pc ls ((As.reverse ++ .ref id :: st).map (q_tv G))) (rest := st.map (q_tv G)) ⟨hexec, hbb, hml, hown, hts⟩ hM cw hp rfl (by rw [List.length_map]; exact hlen) g3.1
    (by show (As.reverse ++ .ref id :: st).map (q_tv G) = _
        rw [List.map_append, List.map_reverse, List.map_cons, q_tv_pos G i1])
    (by show 2 * 0 + _ ≤ 8
        rw [q_cats]; omega) hdec ⟨by omega, by omega⟩
  rcases hrun T hT X9 with ⟨v, st₀, u, T', L9, e0, X', hL, e1, e2, ⟨⟨r, n', w', hr, hQ, hh⟩, hva⟩, hgo⟩ | ⟨q, st₀, u, T', L9, E9, ce, e0, X', hL, e1, e2, ⟨⟨n', w', hX, hh⟩, hva⟩, c1, c2, c3, hgo⟩
  · cases hr
    have hS : va_S (q_A G) s.heap T'.heap (locs ++ L9) := by
      rw [e1]
      refine ⟨Nat.le_trans g2.1 (by rw [← e0]; exact hva.1), fun q hq hA => ?_, fun z hz => ?_⟩
      · rw [hva.2 q (by rw [e0]; exact Nat.lt_of_lt_of_le hq g2.1) hA, e0]
        exact g2.2.1 q hq hA
      · rcases List.mem_append.mp hz with h9 | h9
        · exact g2.2.2 z h9
        · exact hL z h9
    obtain ⟨t2, a1, b1⟩ := kk r n' w' hQ G p l e R s m args below meth c Z hΦ Cc h1 h2 h3 h4 T'.heap (locs ++ L9) (cells + a') (slots + b') ls (by rw [e1]; exact hh) (fun h9 => by have := g0 h9; have := ht h9 r n' w' hQ; omega) hS g3 (by omega) (by omega) T' rfl X'
    refine ⟨t2, hgo t2 ?_, b1⟩
    have e9 : (r.toList ++ st).map (q_tv G) = (r.map (q_tv G)).toList ++ st.map (q_tv G) := by
      cases r <;> rfl
    rw [← e9]
    exact a1
  · have hS : va_S (q_A G) s.heap T'.heap (locs ++ L9) := by
      rw [e1]
      refine ⟨Nat.le_trans g2.1 (by rw [← e0]; exact hva.1), fun q hq hA => ?_, fun z hz => ?_⟩
      · rw [hva.2 q (by rw [e0]; exact Nat.lt_of_lt_of_le hq g2.1) hA, e0]
        exact g2.2.1 q hq hA
      · rcases List.mem_append.mp hz with h9 | h9
        · exact g2.2.2 z h9
        · exact hL z h9
    obtain ⟨t2, a1, b1⟩ := h4 E9 n' w' T'.heap (locs ++ L9) (cells + a') (slots + b') ls pc (st.map (q_tv G)) q ce (kx _ _ _ hX) (by rw [e1]; exact hh) hS (by omega) (by omega) (by rw [e1]; exact c1) c2 c3 T' rfl X'
    exact ⟨t2, hgo.trans a1, b1⟩
theorem p_Ex_callS (hm : q_mokS M' k) (hn : 0 < n) (hl : Cond.methodLink (q_own M.1) idx M'.2.1 ∈ q_TB) (hdec : decode M.2.2.1 pc = .ok (.invokestatic idx, 3)) (E : q_Ev d' a' b' M' n t w As Q1 X1) (hlen : As.length = k) (hst : (st.map fun v => v.category).sum ≤ 8)
    (hd : d' + 1 ≤ d) (ha : a' ≤ a) (hb : b' ≤ b) (ht : t = true → ∀ r n' w', Q1 r n' w' → n' = n + a')
    (kk : ∀ r n' w', Q1 r n' w' → p_Ex Φ d (a - a') (b - b') M n' t (pc + 3, L, r.toList ++ st, w') Q X) (kx : ∀ E n' w', X1 E n' w' → X E n' w') : p_Ex Φ d a b M n t (pc, L, As.reverse ++ st, w) Q X := by
  intro G p l e R s m args below meth c Z hΦ C h1 h2 h3 h4 H locs cells slots ls g1 g0 g2 g3 g4 g5 T hT X9
  obtain ⟨hws, hy, hnL⟩ := hm
  have Cc := C
  obtain ⟨hexec, hbb, hml, hown, hts, hK, hF, hlt⟩ := C
  have hM := E l G hlt
  have g1 : q_hd G n w H := g1
  have hsz : t = true → H.size = G.2.2.1 + n + 1 := fun h9 => q_tight g1 hn hT X9 (g0 h9)
  have cw : CallB R s args (q_own M.1) idx M'.2.1 M'.2.2.1 M'.2.2.2.1 M'.2.2.2.2 (q_wd M') (q_rm d' a' b') a' b' k ∧ (Cond.static M'.2.1).before args s = true := by
    refine ⟨callB_of k hts (q_in_good ?_) rfl rfl rfl (hts _ (hws _ (by simp))) (hts _ hl) hy ⟨?_, ?_⟩, hts _ (hws _ List.mem_cons_self)⟩
    · intro w9 h9
      rcases List.mem_cons.mp h9 with rfl | h9
      · exact hws _ (by simp)
      · exact h9
    · show d' + 1 ≤ R.frames
      omega
    · show 8 + (M'.2.2.2.1 + 11) + 64 * d' ≤ R.locals
      omega
  have hp : PreS s H (q_Pc G n t w As) (As.map (q_tv G)) := by
    refine ⟨q_Pc_blind, fun U hU hW => ⟨rfl, ?_, fun h9 => (by rw [hU]; exact hsz h9), q_K.warm hW hK, ?_⟩⟩
    · show q_hd G n w U.heap
      rw [hU]; exact g1
    · rw [hU]; exact q_F.moved hW.alike (q_F.kept hF (fun q hq hA => g2.2.1 q hq hA))
  have hrun := vx_runS (e := e) (below := below) (meth := meth) (locs := locs) (cells := cells) (slots := slots) (g := F0 m pc ls ((As.reverse ++ st).map (q_tv G))) (rest := st.map (q_tv G)) ⟨hexec, hbb, hml, hown, hts⟩ hM cw hp rfl (by rw [List.length_map]; exact hlen) g3.1
    (by show (As.reverse ++ st).map (q_tv G) = _
        rw [List.map_append, List.map_reverse])
    (by show 2 * 0 + _ ≤ 8
        rw [q_cats]; omega) hdec ⟨by omega, by omega⟩
  rcases hrun T hT X9 with ⟨v, st₀, u, T', L9, e0, X', hL, e1, e2, ⟨⟨r, n', w', hr, hQ, hh⟩, hva⟩, hgo⟩ | ⟨q, st₀, u, T', L9, E9, ce, e0, X', hL, e1, e2, ⟨⟨n', w', hX, hh⟩, hva⟩, c1, c2, c3, hgo⟩
  · cases hr
    have hS : va_S (q_A G) s.heap T'.heap (locs ++ L9) := by
      rw [e1]
      refine ⟨Nat.le_trans g2.1 (by rw [← e0]; exact hva.1), fun q hq hA => ?_, fun z hz => ?_⟩
      · rw [hva.2 q (by rw [e0]; exact Nat.lt_of_lt_of_le hq g2.1) hA, e0]
        exact g2.2.1 q hq hA
      · rcases List.mem_append.mp hz with h9 | h9
        · exact g2.2.2 z h9
        · exact hL z h9
    obtain ⟨t2, a1, b1⟩ := kk r n' w' hQ G p l e R s m args below meth c Z hΦ Cc h1 h2 h3 h4 T'.heap (locs ++ L9) (cells + a') (slots + b') ls (by rw [e1]; exact hh) (fun h9 => by have := g0 h9; have := ht h9 r n' w' hQ; omega) hS g3 (by omega) (by omega) T' rfl X'
    refine ⟨t2, hgo t2 ?_, b1⟩
    have e9 : (r.toList ++ st).map (q_tv G) = (r.map (q_tv G)).toList ++ st.map (q_tv G) := by
      cases r <;> rfl
    rw [← e9]
    exact a1
  · have hS : va_S (q_A G) s.heap T'.heap (locs ++ L9) := by
      rw [e1]
      refine ⟨Nat.le_trans g2.1 (by rw [← e0]; exact hva.1), fun q hq hA => ?_, fun z hz => ?_⟩
      · rw [hva.2 q (by rw [e0]; exact Nat.lt_of_lt_of_le hq g2.1) hA, e0]
        exact g2.2.1 q hq hA
      · rcases List.mem_append.mp hz with h9 | h9
        · exact g2.2.2 z h9
        · exact hL z h9
    obtain ⟨t2, a1, b1⟩ := h4 E9 n' w' T'.heap (locs ++ L9) (cells + a') (slots + b') ls pc (st.map (q_tv G)) q ce (kx _ _ _ hX) (by rw [e1]; exact hh) hS (by omega) (by omega) (by rw [e1]; exact c1) c2 c3 T' rfl X'
    exact ⟨t2, hgo.trans a1, b1⟩
theorem p_Ex_callC (hm : q_mokV M' x k) (hl : Cond.methodLink (q_own M.1) idx M'.2.1 ∈ q_TB) (hdec : decode M.2.2.1 pc = .ok (.invokevirtual idx, 3)) (E : q_Ev d' a' b' M' n t w (.ref id :: As) Q1 X1) (hid : q_id n x id) (hlen : As.length = k) (hst : (st.map fun v => v.category).sum ≤ 8)
    (hd : d' + 1 ≤ d) (ha : a' ≤ a) (hb : b' ≤ b) (ht0 : t = false)
    (kk : ∀ r n' w', Q1 r n' w' → p_Ex Φ d (a - a') (b - b') M n' t (pc + 3, L, r.toList ++ st, w') Q X) (kx : ∀ E n' w', X1 E n' w' → p_Han Φ M pc E (fun hp => p_Ex Φ d (a - a') (b - b') M n' t (hp.1, p_fg L hp.2, [], w') Q X)) : p_Ex Φ d a b M n t (pc, L, As.reverse ++ .ref id :: st, w) Q X := by
  intro G p l e R s m args below meth c Z hΦ C h1 h2 h3 h4 H locs cells slots ls g1 g0 g2 g3 g4 g5 T hT X9
  obtain ⟨hx13, hcls, hws, hy, hnL⟩ := hm
  obtain ⟨⟨i1, i2⟩, i3⟩ := hid
  have Cc := C
  obtain ⟨hexec, hbb, hml, hown, hts, hK, hF, hlt⟩ := C
  have hM := E l G hlt
  have he : (q_ws G n w)[id - 1]? = some (G.2.2.1 + id, .inr (x, (List.range (q_N x)).map (q_fv G w id x))) := by
    rw [q_ws_get i1 i2, q_cell_obj i3 hx13]
  have g1 : q_hd G n w H := g1
  have hsz : t = true → H.size = G.2.2.1 + n + 1 := fun h9 => q_tight g1 (by omega) hT X9 (g0 h9)
  have cw : CallW R s args (q_own M.1) (q_own x) idx M'.2.1 M'.2.2.1 M'.2.2.2.1 M'.2.2.2.2 (q_wd M') (q_rm d' a' b') a' b' k := by
    refine cwV k hts (q_in_good ?_) rfl rfl rfl ⟨hcls, hy⟩ ⟨?_, ?_⟩
    · intro w9 hw9
      unfold wsV at hw9
      rcases List.mem_append.mp hw9 with h9 | h9
      · rcases List.mem_cons.mp h9 with rfl | h9
        · exact hl
        · rcases List.mem_cons.mp h9 with rfl | h9
          · exact hws _ List.mem_cons_self
          · rcases List.mem_cons.mp h9 with rfl | h9
            · exact hws _ (by simp)
            · rcases List.mem_cons.mp h9 with rfl | h9
              · exact hws _ (by simp)
              · cases h9
      · rcases List.mem_cons.mp h9 with rfl | h9
        · exact hws _ (by simp)
        · exact h9
    · show d' + 1 ≤ R.frames
      omega
    · show 8 + (M'.2.2.2.1 + 11) + 64 * d' ≤ R.locals
      omega
  have hp : PreV s H (q_own x) (G.2.2.1 + id) (q_Pc G n t w (.ref id :: As)) (As.map (q_tv G)) := by
    refine ⟨q_Pc_blind, va_recv hK.1 g1 (q_cl hx13) he, fun U hU hW => ⟨?_, ?_, fun h9 => (by rw [hU]; exact hsz h9), q_K.warm hW hK, ?_⟩⟩
    · rw [List.map_cons, q_tv_pos G i1]
    · show q_hd G n w U.heap
      rw [hU]; exact g1
    · rw [hU]; exact q_F.moved hW.alike (q_F.kept hF (fun q hq hA => g2.2.1 q hq hA))
  have hrun := vx_runV (e := e) (below := below) (meth := meth) (locs := locs) (cells := cells) (slots := slots) (g := F0 m pc ls ((As.reverse ++ .ref id :: st).map (q_tv G))) (rest := st.map (q_tv G)) ⟨hexec, hbb, hml, hown, hts⟩ hM cw hp rfl (by rw [List.length_map]; exact hlen) g3.1
    (by show (As.reverse ++ .ref id :: st).map (q_tv G) = _
        rw [List.map_append, List.map_reverse, List.map_cons, q_tv_pos G i1])
    (by show 2 * 0 + _ ≤ 8
        rw [q_cats]; omega) hdec ⟨by omega, by omega⟩
  rcases hrun T hT X9 with ⟨v, st₀, u, T', L9, e0, X', hL, e1, e2, ⟨⟨r, n', w', hr, hQ, hh⟩, hva⟩, hgo⟩ | ⟨q, st₀, u, T', L9, E9, ce, e0, X', hL, e1, e2, ⟨⟨n', w', hX, hh⟩, hva⟩, c1, c2, c3, hgo⟩
  · cases hr
    have hS : va_S (q_A G) s.heap T'.heap (locs ++ L9) := by
      rw [e1]
      refine ⟨Nat.le_trans g2.1 (by rw [← e0]; exact hva.1), fun q hq hA => ?_, fun z hz => ?_⟩
      · rw [hva.2 q (by rw [e0]; exact Nat.lt_of_lt_of_le hq g2.1) hA, e0]
        exact g2.2.1 q hq hA
      · rcases List.mem_append.mp hz with h9 | h9
        · exact g2.2.2 z h9
        · exact hL z h9
    obtain ⟨t2, a1, b1⟩ := kk r n' w' hQ G p l e R s m args below meth c Z hΦ Cc h1 h2 h3 h4 T'.heap (locs ++ L9) (cells + a') (slots + b') ls (by rw [e1]; exact hh) (fun h9 => by rw [ht0] at h9; cases h9) hS g3 (by omega) (by omega) T' rfl X'
    refine ⟨t2, hgo t2 ?_, b1⟩
    have e9 : (r.toList ++ st).map (q_tv G) = (r.map (q_tv G)).toList ++ st.map (q_tv G) := by
      cases r <;> rfl
    rw [← e9]
    exact a1
  · have hS : va_S (q_A G) s.heap T'.heap (locs ++ L9) := by
      rw [e1]
      refine ⟨Nat.le_trans g2.1 (by rw [← e0]; exact hva.1), fun q hq hA => ?_, fun z hz => ?_⟩
      · rw [hva.2 q (by rw [e0]; exact Nat.lt_of_lt_of_le hq g2.1) hA, e0]
        exact g2.2.1 q hq hA
      · rcases List.mem_append.mp hz with h9 | h9
        · exact g2.2.2 z h9
        · exact hL z h9
    obtain ⟨pre, xh, suf, name, j, len, hT9, hcov, hct, hlk, hca, hdj, hjn, kX⟩ := kx E9 n' w' hX
    obtain ⟨z1, z2⟩ := hT9 G s m args c hΦ
    have hh9 : q_hd G n' w' T'.heap := by rw [e1]; exact hh
    have kc : W p l e R s m args below meth c T'.heap (locs ++ L9) (cells + a') (slots + b') Z (F0 m xh.handlerPc ls [.ref q]) := by
      have k9 : ∀ ls' : Array Slot, lv_has ls' M.2.2.2.1 ((j, Value.ref q) :: (q_as G L).filter (fun q => !(q.1 == j) && !(q.1 + 1 == j && q.2.category == 2))) → W p l e R s m args below meth c T'.heap (locs ++ L9) (cells + a') (slots + b') Z (F0 m (xh.handlerPc + len) ls' []) := fun ls' hl9 =>
        kX G p l e R s m args below meth c Z hΦ Cc h1 h2 h3 h4 T'.heap (locs ++ L9) (cells + a') (slots + b') ls' hh9 (fun h9 => by rw [ht0] at h9; cases h9) hS (q_lv.pfg hl9) (by omega) (by omega)
      rcases hdj with ⟨kk, hk, rfl, hdj⟩ | ⟨rfl, hdj⟩
      · exact lv_astore_n hexec hbb hdj hk g3.has hjn rfl k9
      · exact lv_astore hexec hbb hdj g3.has hjn rfl k9
    obtain ⟨t2, a1, b1⟩ := p_catch (pc := pc) (ls := ls) (rest := st.map (q_tv G)) hown pre xh suf z1 (fun z hz => (z2 z hz).imp (fun h => h) (fun ⟨u1, nm, u2, u3⟩ => ⟨u1, nm, hts _ u2, u3⟩)) hcov hct (hts _ hlk) (hK.2.2.2.2.1 (E9, name) hca) (by rw [e1]; exact c1) c2 c3 kc T' rfl X'
    exact ⟨t2, hgo.trans a1, b1⟩
def p_Nc (s : State) : Prop := va_Nc "java/lang/IllegalArgumentException" "java/util/NoSuchElementException" s
theorem p_Nc.warm {s U : State} (hW : s.WarmedH U.vm) (h : p_Nc s) : p_Nc U := by
  obtain ⟨c, t, h1, h2, h3⟩ := h
  exact ⟨c, t, by rw [hW.alike.findClass]; exact h1, by rw [hW.alike.findClass]; exact h2, by rw [hW.alike.assignable]; exact h3⟩
/-- what the tables say of a static method with handlers -/
def p_mokW (M : q_Mt) (hh : List (Nat × Nat × Nat × Nat)) (k : Nat) : Prop := (∀ w ∈ [Cond.static M.2.1, Cond.initialized M.2.1.cls, Cond.codeWith M.2.1 M.2.2.1 M.2.2.2.1 M.2.2.2.2 hh], w ∈ q_TB) ∧
  (M.2.1.cls ≠ "java/lang/invoke/MethodHandle" ∧ M.2.1.cls ≠ "java/lang/invoke/VarHandle" ∧ (parseMethodDescriptor M.2.1.desc).map (fun d => d.parameters.length) = some k) ∧ M.2.2.2.1 + 19 ≤ 64
abbrev p_wdW (M : q_Mt) (hh : List (Nat × Nat × Nat × Nat)) : List Cond := Cond.codeWith M.2.1 M.2.2.1 M.2.2.2.1 M.2.2.2.2 hh :: q_TB
def p_PcW (G : q_G) (n : Nat) (t : Bool) (w : q_Mem) (As : List Value) : Array Value → State → Prop := fun a U => q_Pc G n t w As a U ∧ p_Nc U
theorem p_PcW_blind {G : q_G} {n : Nat} {t : Bool} {w : q_Mem} {As : List Value} : FrameBlind (p_PcW G n t w As) := by
  intro a U g mk h
  exact ⟨q_Pc_blind a U g mk h.1, h.2⟩
/-- the contract of a method that catches what is thrown below it -/
def p_EvW (d a b : Nat) (M : q_Mt) (hh : List (Nat × Nat × Nat × Nat)) (n : Nat) (t : Bool) (w : q_Mem) (As : List Value) (Q : q_Po) : Prop :=
  ∀ (l : Launch) (G : q_G), l.stackTraces = false → vx_Met l M.2.1 (p_wdW M hh) (q_rm d a b) (p_PcW G n t w As) (q_Qc G Q) (q_Xc G (fun _ _ _ => False)) a b (q_A G)
def p_CW (hh : List (Nat × Nat × Nat × Nat)) : p_Cc := fun _ s _ _ c => c.exceptionTable.toList = tableOf hh ∧ p_Nc s
theorem p_Ex_callW {hh : List (Nat × Nat × Nat × Nat)} (hm : p_mokW M' hh k) (hn : 0 < n) (hl : Cond.methodLink (q_own M.1) idx M'.2.1 ∈ q_TB) (hdec : decode M.2.2.1 pc = .ok (.invokestatic idx, 3)) (hΨ : ∀ G s m args c, Φ G s m args c → p_Nc s) (E : p_EvW d' a' b' M' hh n t w As Q1) (hlen : As.length = k) (hst : (st.map fun v => v.category).sum ≤ 8)
    (hd : d' + 1 ≤ d) (ha : a' ≤ a) (hb : b' ≤ b) (ht : t = true → ∀ r n' w', Q1 r n' w' → n' = n + a')
    (kk : ∀ r n' w', Q1 r n' w' → p_Ex Φ d (a - a') (b - b') M n' t (pc + 3, L, r.toList ++ st, w') Q X)  : p_Ex Φ d a b M n t (pc, L, As.reverse ++ st, w) Q X := by
  intro G p l e R s m args below meth c Z hΦ C h1 h2 h3 h4 H locs cells slots ls g1 g0 g2 g3 g4 g5 T hT X9
  obtain ⟨hws, hy, hnL⟩ := hm
  have Cc := C
  obtain ⟨hexec, hbb, hml, hown, hts, hK, hF, hlt⟩ := C
  have hM := E l G hlt
  have g1 : q_hd G n w H := g1
  have hsz : t = true → H.size = G.2.2.1 + n + 1 := fun h9 => q_tight g1 hn hT X9 (g0 h9)
  have cw : vx_CSW R s args (q_own M.1) idx M'.2.1 M'.2.2.1 M'.2.2.2.1 M'.2.2.2.2 hh (p_wdW M' hh) (q_rm d' a' b') a' b' k := by
    refine vx_cwSW k hts (q_in_good ?_) rfl rfl rfl hy ⟨?_, ?_⟩
    · intro w9 h9
      unfold va_wsS at h9
      rcases List.mem_append.mp h9 with h9 | h9
      · rcases List.mem_cons.mp h9 with rfl | h9
        · exact hl
        · rcases List.mem_cons.mp h9 with rfl | h9
          · exact hws _ List.mem_cons_self
          · rcases List.mem_cons.mp h9 with rfl | h9
            · exact hws _ (by simp)
            · cases h9
      · rcases List.mem_cons.mp h9 with rfl | h9
        · exact hws _ (by simp)
        · exact h9
    · show d' + 1 ≤ R.frames
      omega
    · show 8 + (M'.2.2.2.1 + 11) + 64 * d' ≤ R.locals
      omega
  have hp : PreS s H (p_PcW G n t w As) (As.map (q_tv G)) := by
    refine ⟨p_PcW_blind, fun U hU hW => ⟨⟨rfl, ?_, fun h9 => (by rw [hU]; exact hsz h9), q_K.warm hW hK, ?_⟩, (hΨ G s m args c hΦ).warm hW⟩⟩
    · show q_hd G n w U.heap
      rw [hU]; exact g1
    · rw [hU]; exact q_F.moved hW.alike (q_F.kept hF (fun q hq hA => g2.2.1 q hq hA))
  have hrun := vx_runSX (hh := hh) (e := e) (below := below) (meth := meth) (locs := locs) (cells := cells) (slots := slots) (g := F0 m pc ls ((As.reverse ++ st).map (q_tv G))) (rest := st.map (q_tv G)) ⟨hexec, hbb, hml, hown, hts⟩ hM cw hp rfl (by rw [List.length_map]; exact hlen) g3.1
    (by show (As.reverse ++ st).map (q_tv G) = _
        rw [List.map_append, List.map_reverse])
    (by show 2 * 0 + _ ≤ 8
        rw [q_cats]; omega) hdec ⟨by omega, by omega⟩
  rcases hrun T hT X9 with ⟨v, st₀, u, T', L9, e0, X', hL, e1, e2, ⟨⟨r, n', w', hr, hQ, hh⟩, hva⟩, hgo⟩ | ⟨q, st₀, u, T', L9, E9, ce, e0, X', hL, e1, e2, ⟨⟨n', w', hX, hh⟩, hva⟩, c1, c2, c3, hgo⟩
  · cases hr
    have hS : va_S (q_A G) s.heap T'.heap (locs ++ L9) := by
      rw [e1]
      refine ⟨Nat.le_trans g2.1 (by rw [← e0]; exact hva.1), fun q hq hA => ?_, fun z hz => ?_⟩
      · rw [hva.2 q (by rw [e0]; exact Nat.lt_of_lt_of_le hq g2.1) hA, e0]
        exact g2.2.1 q hq hA
      · rcases List.mem_append.mp hz with h9 | h9
        · exact g2.2.2 z h9
        · exact hL z h9
    obtain ⟨t2, a1, b1⟩ := kk r n' w' hQ G p l e R s m args below meth c Z hΦ Cc h1 h2 h3 h4 T'.heap (locs ++ L9) (cells + a') (slots + b') ls (by rw [e1]; exact hh) (fun h9 => by have := g0 h9; have := ht h9 r n' w' hQ; omega) hS g3 (by omega) (by omega) T' rfl X'
    refine ⟨t2, hgo t2 ?_, b1⟩
    have e9 : (r.toList ++ st).map (q_tv G) = (r.map (q_tv G)).toList ++ st.map (q_tv G) := by
      cases r <;> rfl
    rw [← e9]
    exact a1
  · exact hX.elim
end PCall
/-- a method that catches all: its contract out of its body -/
theorem p_evW {d a b : Nat} {M : q_Mt} {hh : List (Nat × Nat × Nat × Nat)} {n : Nat} {t : Bool} {w : q_Mem} {As : List Value} {Q : q_Po} (hy : plainName M.2.1.cls = true) (hown : M.2.1.cls = q_own M.1) (hlen : (q_ent As).length ≤ M.2.2.2.1) (hin : Cond.codeWith M.2.1 M.2.2.1 M.2.2.2.1 M.2.2.2.2 hh ∈ q_TB)
    (h : p_Ex (p_CW hh) d a b M n t (0, q_entry As M.2.2.2.1, [], w) Q (fun _ _ _ => False)) : p_EvW d a b M hh n t w As Q := by
  intro l G hl
  refine vx_ofWH (cc := M.2.2.1) (maxL := M.2.2.2.1) (ret := M.2.2.2.2) hy rfl ?_
  intro p e s m args below meth c s₁ B hml hv
  obtain ⟨⟨rfl, hP, ht, hK, hF⟩, hNc⟩ := hv
  have hts0 := atoms_spec (ws := p_wdW M hh) B.pre
  have C : q_Cx G p l s m (As.map (q_tv G)).toArray c M.1 M.2.2.1 M.2.2.2.1 := ⟨B.exec, B.bytes, hml, by rw [← hown]; exact findClass_of_methodNamed B.named, fun w hw => hts0 w (List.mem_cons_of_mem _ hw), hK, hF, hl⟩
  have hr := B.returns
  have hx := B.exec
  have hb := B.bytes
  have htab : c.exceptionTable.toList = tableOf hh := vx_table (x := M.2.1) B (hts0 _ List.mem_cons_self)
  have hent := lv_entry (As.map (q_tv G)) (n := M.2.2.2.1) (by rw [q_ent_len]; exact hlen)
  rw [lg_entry_eq]
  generalize (lg_sl (As.map (q_tv G)) ++ List.replicate (M.2.2.2.1 - (lg_sl (As.map (q_tv G))).length) Slot.unset).toArray = ls at hent ⊢
  have hlv : q_lv G ls M.2.2.2.1 (q_entry As M.2.2.2.1) := by
    refine ⟨hent.1, hent.2.1, fun i v hi => ?_⟩
    have h1 : (q_ent As)[i]? = some (some v) := by
      unfold q_entry at hi
      rw [List.getElem?_append] at hi
      split at hi
      · exact hi
      · rw [List.getElem?_replicate] at hi
        split at hi <;> cases hi
    have h2 := hent.2.2 _ (q_ent_mem (G := G) As 0 i v h1)
    rw [Nat.zero_add] at h2
    exact h2
  refine h G p l e _ s m _ below meth c _ ⟨htab, hNc⟩ C (Nat.le_refl _) (Nat.le_refl _) ?_ ?_ s.heap [] 0 0 ls hP (fun h9 => by rw [Nat.add_zero]; exact ht h9) va_S.rf hlv (by rw [Nat.zero_add]; exact Nat.le_refl _) (by rw [Nat.zero_add]; exact Nat.le_refl _)
  · intro r n' w' H locs cells slots ls' pc hQ hn hh _ hS hc hs hd
    refine W.widen (k := a) (n := b) hc hs ?_
    refine vx_ret ?_
    cases r with
    | none =>
      have hn : M.2.2.2.2 = none := hn
      exact W.vret hx hb (hr.trans hn) (fun u hu hW => ⟨⟨none, n', w', rfl, hQ, by rw [hu]; exact hh⟩, hS.F hu⟩) hS.2.2 hd
    | some v =>
      cases v with
      | int v =>
        obtain ⟨ty, h1, h2⟩ := hn
        exact W.zret hx hb (hr.trans h1) h2 (fun u hu hW => ⟨⟨some (.int v), n', w', rfl, hQ, by rw [hu]; exact hh⟩, hS.F hu⟩) hS.2.2 hd
      | long v =>
        have hn : M.2.2.2.2 = some .long := hn
        exact W.lret hx hb (hr.trans hn) (fun u hu hW => ⟨⟨some (.long v), n', w', rfl, hQ, by rw [hu]; exact hh⟩, hS.F hu⟩) hS.2.2 hd
      | _ => exact (show False from hn).elim
  · intro E n' w' H locs cells slots ls' pc rest q ce hX
    exact hX.elim
/-! the script -/
def p_Sc (N : Nat) (xs : Nat → Int32) : p_Cc := fun G s _ _ _ => va_X (G.2.2.2.1 999) N xs s s.heap ∧ G.2.2.2.1 999 < s.heap.size ∧ ¬ q_A G (G.2.2.2.1 999) ∧ p_Nc s
theorem p_Ex_slen {Φ : p_Cc} {d a b n N pc : Nat} {xs : Nat → Int32} {M : q_Mt} {t : Bool} {L : List (Option Value)} {st : List Value} {w : q_Mem} {Q : q_Po} {X : q_Xo} (hΦ0 : ∀ G s m args c, Φ G s m args c → p_Sc N xs G s m args c) (hd : decode M.2.2.1 pc = .ok (.arraylength, 1))
    (k : p_Ex Φ d a b M n t (pc + 1, L, .int (Int32.ofNat N) :: st, w) Q X) : p_Ex Φ d a b M n t (pc, L, .retAddr 999 :: st, w) Q X := by
  intro G p l e R s m args below meth c Z hΦ C h1 h2 h3 h4 H locs cells slots ls g1 g0 g2 g3 g4 g5
  obtain ⟨z1, z2, z3, -⟩ := hΦ0 _ _ _ _ _ hΦ
  have k2 := k G p l e R s m args below meth c Z hΦ C h1 h2 h3 h4 H locs cells slots ls g1 g0 g2 g3 g4 g5
  obtain ⟨hexec, hb, -⟩ := C
  exact va_slen hexec hb z1 z2 z3 g2 hd k2
theorem p_Ex_sld {Φ : p_Cc} {d a b n N pc : Nat} {xs : Nat → Int32} {M : q_Mt} {t : Bool} {L : List (Option Value)} {st : List Value} {w : q_Mem} {Q : q_Po} {X : q_Xo} {i : Int32} (hΦ0 : ∀ G s m args c, Φ G s m args c → p_Sc N xs G s m args c) (hd : decode M.2.2.1 pc = .ok (.iaload, 1)) (hi : vp_in i N)
    (k : p_Ex Φ d a b M n t (pc + 1, L, .int (xs i.toNatClampNeg) :: st, w) Q X) : p_Ex Φ d a b M n t (pc, L, .int i :: .retAddr 999 :: st, w) Q X := by
  intro G p l e R s m args below meth c Z hΦ C h1 h2 h3 h4 H locs cells slots ls g1 g0 g2 g3 g4 g5
  obtain ⟨z1, z2, z3, -⟩ := hΦ0 _ _ _ _ _ hΦ
  have k2 := k G p l e R s m args below meth c Z hΦ C h1 h2 h3 h4 H locs cells slots ls g1 g0 g2 g3 g4 g5
  obtain ⟨hexec, hb, -⟩ := C
  exact va_sld hexec hb z1 z2 z3 g2 hi hd k2
