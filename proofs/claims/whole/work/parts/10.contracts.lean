abbrev q_Mt : Type := Nat × MethodName × ByteArray × Nat × Option FieldType
abbrev q_Po : Type := Option Value → Nat → q_Mem → Prop
abbrev q_Xo : Type := String → Nat → q_Mem → Prop
def q_rins : Option Value → Instr
  | none => .return_
  | some (.int _) => .ireturn
  | some (.long _) => .lreturn
  | _ => .nop
def q_nar (ret : Option FieldType) : Option Value → Prop
  | none => ret = none
  | some (.int v) => ∃ ty, ret = some ty ∧ narrow ty (.int v) = .int v
  | some (.long _) => ret = some .long
  | _ => False
def q_RetOK (G : q_G) (p : Program) (l : Launch) (e : Env) (R : Room) (s : State) (m : MethodId) (args : Array Value) (below : List Frame) (meth : Method) (c : Code) (Z : State → Prop) (t : Bool) (cc : ByteArray) (ret : Option FieldType) (Q : q_Po) : Prop :=
  ∀ (r : Option Value) (n' : Nat) (w' : q_Mem) (H : Heap) (locs : List Loc) (cells slots : Nat) (ls : Array Slot) (pc : Nat), Q r n' w' → q_nar ret r → q_hd G n' w' H → (t = true → s.heap.size + cells = G.2.2.1 + n' + 1) → va_S (q_A G) s.heap H locs → cells ≤ R.cells → slots ≤ R.slots →
    decode cc pc = .ok (q_rins r, 1) → W p l e R s m args below meth c H locs cells slots Z (F0 m pc ls (r.toList.map (q_tv G)))
def q_ThrOK (G : q_G) (p : Program) (l : Launch) (e : Env) (R : Room) (s : State) (m : MethodId) (args : Array Value) (below : List Frame) (meth : Method) (c : Code) (Z : State → Prop) (X : q_Xo) : Prop :=
  ∀ (E : String) (n' : Nat) (w' : q_Mem) (H : Heap) (locs : List Loc) (cells slots : Nat) (ls : Array Slot) (pc : Nat) (rest : List Value) (q : Addr) (ce : Cell), X E n' w' → q_hd G n' w' H → va_S (q_A G) s.heap H locs → cells ≤ R.cells → slots ≤ R.slots →
    H[q]? = some ce → ce.vm = .none → s.vm.findClass E = some ce.cls → vx_W p l e R s m args below meth c H locs cells slots Z (F0 m pc ls rest) q
/-- the method M, at pc with these locals, stack and memory, comes to its end with Q, or throws with X; d: how deep it may call; a, b: cells and slots that it may take -/
def q_Ex (d a b : Nat) (M : q_Mt) (n : Nat) (t : Bool) (cf : q_Cf) (Q : q_Po) (X : q_Xo) : Prop :=
  ∀ (G : q_G) (p : Program) (l : Launch) (e : Env) (R : Room) (s : State) (m : MethodId) (args : Array Value) (below : List Frame) (meth : Method) (c : Code) (Z : State → Prop),
    q_Cx G p l s m args c M.1 M.2.2.1 M.2.2.2.1 → d ≤ R.frames → 64 * d ≤ R.locals → q_RetOK G p l e R s m args below meth c Z t M.2.2.1 M.2.2.2.2 Q → q_ThrOK G p l e R s m args below meth c Z X →
    q_Go G p l e R s m args below meth c Z M.2.2.2.1 n t a b cf
def q_Pc (G : q_G) (n : Nat) (t : Bool) (w : q_Mem) (As : List Value) : Array Value → State → Prop :=
  va_Pc (As.map (q_tv G)) (fun U => q_hd G n w U.heap ∧ (t = true → U.heap.size = G.2.2.1 + n + 1) ∧ q_K G U ∧ q_F G U U.heap)
def q_Qc (G : q_G) (Q : q_Po) : Array Value → State → Outcome → State → Prop := fun _ st oc u => (∃ (r : Option Value) (n' : Nat) (w' : q_Mem), oc = .returned (r.map (q_tv G)) ∧ Q r n' w' ∧ q_hd G n' w' u.heap) ∧ va_F (q_A G) st u
def q_Xc (G : q_G) (X : q_Xo) : String → State → State → Prop := fun E st u => (∃ (n' : Nat) (w' : q_Mem), X E n' w' ∧ q_hd G n' w' u.heap) ∧ va_F (q_A G) st u
abbrev q_rm (d a b : Nat) : Room := { frames := d, cells := a, slots := b, locals := 64 * d }
abbrev q_wd (M : q_Mt) : List Cond := Cond.code M.2.1 M.2.2.1 M.2.2.2.1 M.2.2.2.2 :: q_TB
/-- the contract of a method -/
def q_Ev (d a b : Nat) (M : q_Mt) (n : Nat) (t : Bool) (w : q_Mem) (As : List Value) (Q : q_Po) (X : q_Xo) : Prop :=
  ∀ (l : Launch) (G : q_G), l.stackTraces = false → vx_Met l M.2.1 (q_wd M) (q_rm d a b) (q_Pc G n t w As) (q_Qc G Q) (q_Xc G X) a b (q_A G)
theorem q_Pc_blind {G : q_G} {n : Nat} {t : Bool} {w : q_Mem} {As : List Value} : FrameBlind (q_Pc G n t w As) := by
  intro a U g mk h
  obtain ⟨h0, h1, h2, h3, h4⟩ := h
  exact ⟨h0, h1, h2, q_K.same (u := U) rfl h3, q_F.moved (u := U) (Vm.Alike.refl U.vm) h4⟩
def q_ent : List Value → List (Option Value)
  | [] => []
  | v :: vs => if v.category = 2 then some v :: none :: q_ent vs else some v :: q_ent vs
def q_entry (As : List Value) (nL : Nat) : List (Option Value) := q_ent As ++ List.replicate (nL - (q_ent As).length) none
theorem q_ent_mem {G : q_G} (As : List Value) : ∀ (k i : Nat) (v : Value), (q_ent As)[i]? = some (some v) → (k + i, q_tv G v) ∈ lv_args k (As.map (q_tv G)) := by
  induction As with
  | nil => intro k i v h; simp [q_ent] at h
  | cons u us ih =>
    intro k i v h
    unfold q_ent at h
    rw [List.map_cons]
    unfold lv_args
    rw [q_tv_cat]
    by_cases hc : u.category = 2
    · rw [if_pos hc] at h ⊢
      rcases i with _ | _ | i
      · simp at h; subst h; exact List.mem_cons_self
      · simp at h
      · simp at h
        have := ih (k + 2) i v h
        refine List.mem_cons_of_mem _ ?_
        rwa [show k + (i + 1 + 1) = k + 2 + i by omega]
    · rw [if_neg hc] at h ⊢
      rcases i with _ | i
      · simp at h; subst h; exact List.mem_cons_self
      · simp at h
        have := ih (k + 1) i v h
        refine List.mem_cons_of_mem _ ?_
        rwa [show k + (i + 1) = k + 1 + i by omega]
theorem q_ent_len {G : q_G} (As : List Value) : (lg_sl (As.map (q_tv G))).length = (q_ent As).length := by
  induction As with
  | nil => rfl
  | cons u us ih =>
    unfold q_ent
    unfold lg_sl at ih ⊢
    rw [List.map_cons, List.flatMap_cons, List.length_append, ih, q_tv_cat]
    by_cases hc : u.category = 2
    · simp [hc]; omega
    · simp [hc]; omega
theorem q_ev_of {d a b : Nat} {M : q_Mt} {n : Nat} {t : Bool} {w : q_Mem} {As : List Value} {Q : q_Po} {X : q_Xo} (hy : plainName M.2.1.cls = true) (hown : M.2.1.cls = q_own M.1) (hlen : (q_ent As).length ≤ M.2.2.2.1)
    (h : q_Ex d a b M n t (0, q_entry As M.2.2.2.1, [], w) Q X) : q_Ev d a b M n t w As Q X := by
  intro l G hl
  refine vx_ofW (cc := M.2.2.1) (maxL := M.2.2.2.1) (ret := M.2.2.2.2) hy rfl ?_
  intro p e s m args below meth c s₁ B hml hex hv
  obtain ⟨rfl, hP, ht, hK, hF⟩ := hv
  have hts0 := atoms_spec (ws := q_wd M) B.pre
  have C : q_Cx G p l s m (As.map (q_tv G)).toArray c M.1 M.2.2.1 M.2.2.2.1 := ⟨B.exec, B.bytes, hml, by rw [← hown]; exact findClass_of_methodNamed B.named, fun w hw => hts0 w (List.mem_cons_of_mem _ hw), hK, hF, hl⟩
  have hr := B.returns
  have hlocks := B.notSynchronized
  have hx := B.exec
  have hb := B.bytes
  have hent := lv_entry (As.map (q_tv G)) (n := M.2.2.2.1) (by rw [q_ent_len]; exact hlen)
  rw [lg_entry_eq]
  generalize (lg_sl (As.map (q_tv G)) ++ List.replicate (M.2.2.2.1 - (lg_sl (As.map (q_tv G))).length) Slot.unset).toArray = ls at hent ⊢
  have hlv : q_lv G ls M.2.2.2.1 (q_entry As M.2.2.2.1) := by
    refine ⟨hent.1, hent.2.1, fun i v hi => ?_⟩
    have h1 : (q_ent As)[i]? = some (some v) := by
      unfold q_entry at hi
      rw [List.getElem?_append] at hi
      split at hi
      · exact hi
      · rw [List.getElem?_replicate] at hi
        split at hi <;> cases hi
    have h2 := hent.2.2 _ (q_ent_mem (G := G) As 0 i v h1)
    rw [Nat.zero_add] at h2
    exact h2
  refine h G p l e _ s m _ below meth c _ C (Nat.le_refl _) (Nat.le_refl _) ?_ ?_ s.heap [] 0 0 ls hP (fun h9 => by rw [Nat.add_zero]; exact ht h9) va_S.rf hlv (by rw [Nat.zero_add]; exact Nat.le_refl _) (by rw [Nat.zero_add]; exact Nat.le_refl _)
  · intro r n' w' H locs cells slots ls' pc hQ hn hh _ hS hc hs hd
    refine W.widen (k := a) (n := b) hc hs ?_
    refine vx_ret ?_
    cases r with
    | none =>
      have hn : M.2.2.2.2 = none := hn
      exact W.vret hx hb (hr.trans hn) (fun u hu hW => ⟨⟨none, n', w', rfl, hQ, by rw [hu]; exact hh⟩, hS.F hu⟩) hS.2.2 hd
    | some v =>
      cases v with
      | int v =>
        obtain ⟨ty, h1, h2⟩ := hn
        exact W.zret hx hb (hr.trans h1) h2 (fun u hu hW => ⟨⟨some (.int v), n', w', rfl, hQ, by rw [hu]; exact hh⟩, hS.F hu⟩) hS.2.2 hd
      | long v =>
        have hn : M.2.2.2.2 = some .long := hn
        exact W.lret hx hb (hr.trans hn) (fun u hu hW => ⟨⟨some (.long v), n', w', rfl, hQ, by rw [hu]; exact hh⟩, hS.F hu⟩) hS.2.2 hd
      | _ => exact (show False from hn).elim
  · intro E n' w' H locs cells slots ls' pc rest q ce hX hh hS hc hs h1 h2 h3
    exact vx_out (fun x hx9 => (hex x hx9).elim) hlocks h1 h2 h3 (fun u hu _ => ⟨⟨n', w', hX, by rw [hu]; exact hh⟩, hS.F hu⟩) hS.2.2 hc hs
theorem q_Ex_blk {d a b : Nat} {M : q_Mt} {n : Nat} {t : Bool} {cf : q_Cf} {Q : q_Po} {X : q_Xo} (is : List q_RI) (cf' : q_Cf) (ps : List Prop) (hr : q_chk M.1 M.2.2.2.1 M.2.2.1 cf.1 is = true) (he : q_run n is cf = (cf', ps)) (hP : q_all ps) (k : q_Ex d a b M n t cf' Q X) : q_Ex d a b M n t cf Q X := by
  intro G p l e R s m args below meth c Z C h1 h2 h3 h4
  refine q_blk C is hr (by rw [he]; exact hP) ?_
  rw [he]
  exact k G p l e R s m args below meth c Z C h1 h2 h3 h4
theorem q_Ex_ret {d a b : Nat} {M : q_Mt} {n : Nat} {t : Bool} {pc : Nat} {L : List (Option Value)} {w : q_Mem} {Q : q_Po} {X : q_Xo} (r : Option Value) (hd : decode M.2.2.1 pc = .ok (q_rins r, 1)) (hn : q_nar M.2.2.2.2 r) (hQ : Q r n w) : q_Ex d a b M n t (pc, L, r.toList, w) Q X := by
  intro G p l e R s m args below meth c Z C h1 h2 h3 h4 H locs cells slots ls g1 g0 g2 g3 g4 g5
  exact h3 r n w H locs cells slots ls pc hQ hn g1 g0 g2 (by omega) (by omega) hd
def q_cnd : ClassFile.Cond → Int32 → Int32 → Prop
  | .eq, x, y => x = y
  | .ne, x, y => ¬ x = y
  | .lt, x, y => x < y
  | .ge, x, y => y ≤ x
  | .gt, x, y => y < x
  | .le, x, y => x ≤ y
theorem q_Ex_icmp {d a b : Nat} {M : q_Mt} {n : Nat} {t : Bool} {pc : Nat} {L : List (Option Value)} {st : List Value} {x y : Int32} {w : q_Mem} {Q : q_Po} {X : q_Xo} {cd : ClassFile.Cond} {off : Int} (tgt : Nat) (hd : decode M.2.2.1 pc = .ok (.if_icmp cd off, 3)) (ht : (pc : Int) + off = (tgt : Int))
    (k1 : q_cnd cd x y → q_Ex d a b M n t (tgt, L, st, w) Q X) (k2 : ¬ q_cnd cd x y → q_Ex d a b M n t (pc + 3, L, st, w) Q X) : q_Ex d a b M n t (pc, L, .int y :: .int x :: st, w) Q X := by
  intro G p l e R s m args below meth c Z C h1 h2 h3 h4 H locs cells slots ls g1 g0 g2 g3 g4 g5
  have c1 := fun h => k1 h G p l e R s m args below meth c Z C h1 h2 h3 h4 H locs cells slots ls g1 g0 g2 g3 g4 g5
  have c2 := fun h => k2 h G p l e R s m args below meth c Z C h1 h2 h3 h4 H locs cells slots ls g1 g0 g2 g3 g4 g5
  obtain ⟨hexec, hb, -⟩ := C
  cases cd with
  | eq => exact lv_icmp_eq hexec hb hd ht c1 c2
  | ne => exact lv_icmp_ne hexec hb hd ht c1 (fun h => c2 (fun h9 => h9 h))
  | lt => exact lv_icmp_lt hexec hb hd ht c1 c2
  | ge => exact lv_icmp_ge hexec hb hd ht c1 c2
  | gt => exact lv_icmp_gt hexec hb hd ht c1 c2
  | le => exact lv_icmp_le hexec hb hd ht c1 c2
theorem q_Ex_if {d a b : Nat} {M : q_Mt} {n : Nat} {t : Bool} {pc : Nat} {L : List (Option Value)} {st : List Value} {x : Int32} {w : q_Mem} {Q : q_Po} {X : q_Xo} {cd : ClassFile.Cond} {off : Int} (tgt : Nat) (hd : decode M.2.2.1 pc = .ok (.ifCond cd off, 3)) (ht : (pc : Int) + off = (tgt : Int))
    (k1 : q_cnd cd x 0 → q_Ex d a b M n t (tgt, L, st, w) Q X) (k2 : ¬ q_cnd cd x 0 → q_Ex d a b M n t (pc + 3, L, st, w) Q X) : q_Ex d a b M n t (pc, L, .int x :: st, w) Q X := by
  intro G p l e R s m args below meth c Z C h1 h2 h3 h4 H locs cells slots ls g1 g0 g2 g3 g4 g5
  have c1 := fun h => k1 h G p l e R s m args below meth c Z C h1 h2 h3 h4 H locs cells slots ls g1 g0 g2 g3 g4 g5
  have c2 := fun h => k2 h G p l e R s m args below meth c Z C h1 h2 h3 h4 H locs cells slots ls g1 g0 g2 g3 g4 g5
  obtain ⟨hexec, hb, -⟩ := C
  cases cd with
  | eq => exact lv_if_eq hexec hb hd ht c1 c2
  | ne => exact lv_if_ne hexec hb hd ht c1 (fun h => c2 (fun h9 => h9 h))
  | lt => exact lv_if_lt hexec hb hd ht c1 c2
  | ge => exact lv_if_ge hexec hb hd ht c1 c2
  | gt => exact lv_if_gt hexec hb hd ht c1 c2
  | le => exact lv_if_le hexec hb hd ht c1 c2
theorem q_Ex_mono {d a b : Nat} {M : q_Mt} {n : Nat} {t : Bool} {cf : q_Cf} {Q Q' : q_Po} {X X' : q_Xo} (h : q_Ex d a b M n t cf Q X) (hQ : ∀ r n' w', Q r n' w' → Q' r n' w') (hX : ∀ E n' w', X E n' w' → X' E n' w') : q_Ex d a b M n t cf Q' X' := by
  intro G p l e R s m args below meth c Z C h1 h2 h3 h4
  exact h G p l e R s m args below meth c Z C h1 h2 (fun r n' w' H locs cells slots ls pc hq => h3 r n' w' H locs cells slots ls pc (hQ _ _ _ hq)) (fun E n' w' H locs cells slots ls pc rest q ce hx => h4 E n' w' H locs cells slots ls pc rest q ce (hX _ _ _ hx))
theorem q_Ev_mono {d a b : Nat} {M : q_Mt} {n : Nat} {t : Bool} {w : q_Mem} {As : List Value} {Q Q' : q_Po} {X X' : q_Xo} (h : q_Ev d a b M n t w As Q X) (hQ : ∀ r n' w', Q r n' w' → Q' r n' w') (hX : ∀ E n' w', X E n' w' → X' E n' w') : q_Ev d a b M n t w As Q' X' := by
  intro l G hl
  refine MetFree.mono (h l G hl) (fun _ _ hp => hp) (fun _ _ _ _ _ hk => hk) (fun a' s o s' _ hq => ?_)
  rcases hq with ⟨⟨⟨r, n', w', h1, h2, h3⟩, h4⟩, h5⟩ | ⟨q, h1, E, ce, L, ⟨⟨n', w', h2, h3⟩, h4⟩, h5⟩
  · exact Or.inl ⟨⟨⟨r, n', w', h1, hQ _ _ _ h2, h3⟩, h4⟩, h5⟩
  · exact Or.inr ⟨q, h1, E, ce, L, ⟨⟨n', w', hX _ _ _ h2, h3⟩, h4⟩, h5⟩
theorem q_Ex_deep {d d' a b : Nat} {M : q_Mt} {n : Nat} {t : Bool} {cf : q_Cf} {Q : q_Po} {X : q_Xo} (h : q_Ex d a b M n t cf Q X) (hd : d ≤ d') : q_Ex d' a b M n t cf Q X := by
  intro G p l e R s m args below meth c Z C h1 h2 h3 h4
  exact h G p l e R s m args below meth c Z C (Nat.le_trans hd h1) (by omega) h3 h4
