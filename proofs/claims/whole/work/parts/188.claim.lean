def R_law : String := "DuskDebtsLaw"
def lw_P (b : Addr) (xs : List Int32) (args : Array Value) (s : State) : Prop := args = #[.ref b] ∧ s.IntsAt b xs ∧ xs.length ≤ 3072 ∧ (Jvm.Cond.and given_1 narrow_1).before args s = true
def lw_Q (_ : Array Value) (s : State) (o : Outcome) (t : State) : Prop := o = .returned (some (.int 1)) ∧ Framed s o t [] 601024 7293034
def lw_Z (below : List Frame) (a : Array Value) (s : State) : State → Prop := fun t => ∃ o, t.status = .running ∧ Ended t below o ∧ lw_Q a s o t
/-- the law's own end, with 1 on the stack, nothing written that was there before, its room as the claim has it -/
theorem lw_ret {p : Program} {l : Launch} {e : Env} {s : State} {m : MethodId} {below : List Frame} {meth : Method} {c : Code} {b : Nat} (hx : p.tables.exec = Jvm.exec) (hb : c.code = code) (hr : meth.sig.returnType = ret) (hlocks : meth.locks = false) {pc : Nat} {H : Heap} {ls : Array Slot} (hdg : decode code pc = .ok (.ireturn, 1)) : W p l e room_1 s m #[Value.ref b] below meth c H [] 601024 7293034 (lw_Z below #[Value.ref b] s) (F0 m pc ls [.int 1]) := by
  intro T hT X
  obtain ⟨fs, hret, hrun, hended, hW, hframe⟩ := X.leave (v := some (.int 1)) (hlocks := hlocks) (fun h => by rw [hr] at h; cases h)
  have hmeth' : T.vm.method? m = some meth := X.method'
  refine ⟨T.setFrames fs, ?_, .returned (some (.int 1)), hrun, hended, rfl, ⟨_, rfl⟩, hW, hframe⟩
  jvm_step X.here [X.here.top, hx, hb, hdg, hmeth', hr, ret, narrow_b1]
  (try refine ⟨rfl, ?_⟩); (try refine ⟨rfl, ?_⟩)
  first | (intro acts; rw [hret _ acts rfl rfl rfl]) | rw [hret _ _ rfl rfl rfl]
  exact Steps.refl _
/-- what holds at the law's entry: the machine, the code, the tables' words (any of lw_tbl by 'hts w (by decide +kernel)'), the script of L ints xs at the cell b, what the Statement gives of the start (any of its parts by flat_of_before) -/
def lw_At (p : Program) (s : State) (m : MethodId) (meth : Method) (c : Code) (b L : Nat) (xs : Nat → Int32) : Prop :=
  p.tables.exec = Jvm.exec ∧ c.code = code ∧ meth.sig.returnType = ret ∧ c.maxLocals = 8 ∧ s.vm.findClass R_law = some m.cls ∧ (∀ w ∈ lw_tbl, w.before #[Value.ref b] s = true) ∧ va_X b L xs s s.heap ∧ b < s.heap.size ∧ meth.locks = false ∧ (Jvm.Cond.and given_1 narrow_1).before #[Value.ref b] s = true
/-- what is left to show of the law: a state of which all holds, and that the loop keeps it to its end -/
def law_ok : Prop := ∃ Inv : q_Sm → Prop, Inv ini_u ∧ ∀ (N : Nat) (xs : Nat → Int32), N ≤ 3072 → ∀ w : q_Sm, Inv w → ps_Ex (p_Sc N xs) 1000 2000 (13, x, code, 8, ret) 23 [some (.retAddr 999), some (.ref 1), some (.ref 79), some (.ref 116), some (.int 0), none, none, none] [] w (fun r _ => r = some (.int 1)) (fun _ _ => False)
theorem whole_start (hyp : law_ok) {p : Program} {e : Env} {s : State} {m : MethodId} {below : List Frame} {meth : Method} {c : Code} (l : Launch) (hl0 : l.stackTraces = false) {b L : Nat} {xs : Nat → Int32} (hL : L ≤ 3072) (C0 : lw_At p s m meth c b L xs) : W p l e room_1 s m #[Value.ref b] below meth c s.heap [] 0 0 (lw_Z below #[Value.ref b] s) (entryFrame m ([Value.ref b] : List Value).toArray 8) := by
  obtain ⟨Inv, hI, hloop⟩ := hyp
  obtain ⟨hx, hb, hr, hml, hown, hts, hX, hbl, hlocks, hgv⟩ := C0
  obtain ⟨G, hK, hF, hsz, h999, hNc, hAO⟩ := sr_K hts hgv hbl
  have hts2 : ∀ w ∈ q_TB, w.before #[Value.ref b] s = true := fun w hw => hts w (List.mem_filter.mp hw).1
  have C : q_Cx G p l s m #[Value.ref b] c 13 code 8 := ⟨hx, hb, hml, hown, hts2, hK, hF, hl0⟩
  have hret : q_RetOK G p l e room_1 s m #[Value.ref b] below meth c (lw_Z below #[Value.ref b] s) false code ret (s_Q (fun r _ => r = some (.int 1))) := by
    intro r n' w' H locs cells slots ls pc hQ hn hh _ hS hc hs hd
    obtain ⟨-, u, -, hr9⟩ := hQ
    subst hr9
    refine va_forget (fun q hq => ?_) ?_
    · have h9 : G.2.2.1 < q.base := hS.2.2 q hq
      omega
    · refine W.widen (k := 601024) (n := 7293034) hc hs ?_
      exact lw_ret hx hb hr hlocks hd
  have hthr : q_ThrOK G p l e room_1 s m #[Value.ref b] below meth c (lw_Z below #[Value.ref b] s) (s_X (fun _ _ => False)) := by
    intro E n' w' H locs cells slots ls pc rest q ce hX9
    obtain ⟨-, u, -, h9⟩ := hX9
    exact h9.elim
  have hent := lv_entry ([.ref b]) (n := 8) (Nat.le_of_ble_eq_true rfl)
  rw [lg_entry_eq]
  generalize (lg_sl ([.ref b]) ++ List.replicate (8 - (lg_sl ([.ref b])).length) Slot.unset).toArray = ls at hent ⊢
  have hlv : q_lv G ls 8 [some (.retAddr 999), none, none, none, none, none, none, none] := by
    refine ⟨hent.1, hent.2.1, fun i v hi => ?_⟩
    match i, hi with
    | 0, hi =>
      cases hi
      have e1 : q_tv G (.retAddr 999) = .ref b := by rw [q_tv_text G (by decide), h999]
      rw [e1]
      exact hent.2.2 (0, .ref b) List.mem_cons_self
    | 1, hi => cases hi
    | 2, hi => cases hi
    | 3, hi => cases hi
    | 4, hi => cases hi
    | 5, hi => cases hi
    | 6, hi => cases hi
    | 7, hi => cases hi
    | i + 8, hi => simp at hi
  have hKn := hK.1.1 11 _ (q_cl (x := 11) (by decide))
  refine W.newcK (n := q_N 11) (g := F0 m 0 ls []) hx hb hown (hts2 _ (c_NW13_8 _ List.mem_cons_self)) (hts2 _ (c_NW13_8 _ (by simp))) (hts2 _ (c_NW13_8 _ (by simp))) rfl (show decode code 0 = .ok (.new 8, 3) by decide +kernel) (by decide) (by decide) hKn.2.1 rfl (fun H' kC hkC e1 z1 o1 => ?_)
  have hnew : va_at G.1 vwCl (G.2.2.1 + (0 + 1), q_cell G ini_0 (0 + 1)) H' := by
    rw [q_cell_obj (x := 11) rfl (by decide)]
    have e2 : G.2.2.1 + (0 + 1) = s.heap.size := by omega
    rw [e2]
    exact ⟨_, q_cl (x := 11) (by decide), (u_born (q_ty 11) hts2 (q_uw (by decide)) hKn hkC e1 (q_tyok (by decide))).to (c_born (n := 0) (by decide) rfl ⟨fun _ => rfl, fun _ _ => rfl⟩)⟩
  have hd0 : q_hd G 0 ini_0 s.heap := fun k q hq => by simp [q_ws] at hq
  have hd1 : q_hd G 1 ini_0 H' := q_hd.push hd0 (fun q hq => o1 q (by omega)) hnew
  have hS1 : va_S (q_A G) s.heap H' [] := ⟨by omega, fun q hq _ => o1 q hq, fun z hz => by cases hz⟩
  have fs := ini_start (Φ := fun G p l e R s m args below meth c Z => va_AO "DuskDebts$Past" s ∧ ∀ (H : Heap) (locs : List Loc) (cells slots : Nat) (ls : Array Slot), q_hd G 116 ini_1 H → va_S (q_A G) s.heap H locs → q_lv G ls 8 [some (.retAddr 999), some (.ref 1), some (.ref 79), some (.ref 116), some (.int 0), none, none, none] → cells + 2000 ≤ R.cells → slots + 12000 ≤ R.slots → W p l e R s m args below meth c H locs cells slots Z (F0 m 23 ls []))
    (d := 1000) (a := 2000) (b := 12000) (Q := fun _ _ _ => False) (X := fun _ _ _ => False) (by decide) (fun _ _ _ _ _ _ _ _ _ _ _ _ h => h.1) (fun G p l e R s m args below meth c Z hΦ C h1 h2 h3 h4 H locs cells slots ls g1 g0 g2 g3 g4 g5 => hΦ.2 H locs cells slots ls g1 g2 g3 g4 g5)
  have fin := fs G p l e room_1 s m #[Value.ref b] below meth c (lw_Z below #[Value.ref b] s) ⟨hAO, fun H locs cells slots ls g1 g2 g3 g4 g5 => hloop L xs hL _ hI G p l e room_1 s m #[Value.ref b] below meth c _ ⟨by rw [h999]; exact hX, by rw [h999]; exact hbl, by rw [h999]; exact fun h9 => absurd (show G.2.2.1 < b from h9) (by omega), hNc⟩ C (by decide) (by decide) hret hthr H locs cells slots ls (ini_hd g1) (fun h => by cases h) g2 g3 g4 g5⟩ C (by decide) (by decide)
    (fun _ _ _ _ _ _ _ _ _ h => h.elim) (fun _ _ _ _ _ _ _ _ _ _ _ _ h => h.elim) H' [] 1 19 ls hd1 (fun _ => by omega) hS1 hlv (by decide) (by decide)
  have e9 : q_tv G (.ref 1) = .ref s.heap.size := by rw [q_tv_pos G (by decide), hsz]
  have fin2 : W p l e room_1 s m #[Value.ref b] below meth c H' [] 1 19 (lw_Z below #[Value.ref b] s) (F0 m 3 ls [q_tv G (.ref 1)]) := fin
  rw [e9] at fin2
  exact fin2
set_option maxHeartbeats 4000000 in
theorem lw_walk (hyp : law_ok) (l : Launch) (hl0 : l.stackTraces = false) (b : Addr) (xs : List Int32) : MetFree l x (headSpec (Jvm.Cond.code x code maxLocals ret :: tables_1) room_1) (lw_P b xs) (fun _ _ _ _ _ => True) lw_Q := by
  refine MetFree.of_bodyS (code := code) (maxLocals := maxLocals) (ret := ret) (by decide) ?_ ?_
  · intro args s m h hn
    obtain ⟨meth, c, h1, h2, h3, h4, h5, h6, -, -⟩ := Cond.code_spec hn (atoms_spec (ws := Jvm.Cond.code x code maxLocals ret :: tables_1) h _ List.mem_cons_self)
    exact ⟨meth, c, h1, h2, h3, h4, h5, h6⟩
  · intro p e s m args below meth c s₁ B hml0 hP _
    obtain ⟨rfl, hx, hbd, hgv⟩ := hP
    obtain ⟨scr, harrAt, hlist, hof, hsmall⟩ := hx
    obtain ⟨hcb, hkn, -, -⟩ := State.arrayAt?_spec harrAt
    have hown : s.vm.findClass R_law = some m.cls := findClass_of_methodNamed B.named
    have hts0 : ∀ c ∈ (Jvm.Cond.code x code maxLocals ret :: tables_1), c.before #[Value.ref b] s = true := atoms_spec (ws := Jvm.Cond.code x code maxLocals ret :: tables_1) B.pre
    have hts : ∀ w ∈ lw_tbl, w.before #[Value.ref b] s = true := k2_hts_sels lw_privs (fun w hw => hts0 w (List.mem_cons_of_mem _ hw)) lw_privs_ok
    have hml : c.maxLocals = 8 := B.maxLocals_eq (hts0 _ List.mem_cons_self)
    have X₀ : Stand p l e room_1 s m #[Value.ref b] below meth c s₁ [] 0 0 := Stand.of_body B
    have hh0 : s₁.heap = s.heap := by rw [B.state]; rfl
    have hsz : scr.slots.size = xs.length := by rw [← Array.length_toList, hlist, List.length_map]
    have hval : ∀ j : Nat, j < xs.length → scr.slots[j]? = some (.int (xs.getD j 0)) := fun j hj => by
      rw [← Array.getElem?_toList, hlist]
      simp [hj]
    have hbl : b < s.heap.size := (Array.getElem?_eq_some_iff.mp hcb).1
    have hX : va_X b xs.length (fun j => xs.getD j 0) s s.heap := ⟨scr, hcb, hof, hkn, hsz, hval⟩
    have K : W p l e room_1 s m #[Value.ref b] below meth c s₁.heap [] 0 0 (lw_Z below #[Value.ref b] s) (entryFrame m ([Value.ref b] : List Value).toArray 8) := by
      rw [hh0]
      exact whole_start hyp l hl0 hbd ⟨B.exec, B.bytes, B.returns, hml, hown, hts, hX, hbl, B.notSynchronized, hgv⟩
    obtain ⟨t, a1, o, b1, b2, b3⟩ := K s₁ rfl X₀
    exact ⟨t, o, a1, b1, b2, b3⟩
theorem lw_pre_spec {args : Array Value} {s : State} (h : (Jvm.Cond.and given_1 narrow_1).before args s = true) (hr : rest_1_c.before args s = true) : ∃ (b : Addr) (xs : List Int32), lw_P b xs args s := by
  have hs := flat_of_before _ h
  have hq := flat_of_before _ hr
  have hc : (Cond.count 1).before args s = true := hs _ (by decide +kernel)
  have harr : (Cond.arrayOf (.arg 0) .int).before args s = true := hs _ (by decide +kernel)
  have hle : (Cond.le (.length (.arg 0)) (.int 3072)).before args s = true := hs _ (by decide +kernel)
  have hlen : (Cond.isInt (.length (.arg 0))).before args s = true := hq _ (by decide +kernel)
  have hall : (Cond.all (.arg 0) (.isInt (.elem (.arg 0) (.index 0)))).before args s = true := hq _ (by decide +kernel)
  obtain ⟨b, xs, hb, hx⟩ := State.ints_of_pre rfl harr hlen hall
  have hsm : xs.length < 2 ^ 31 := hx.choose_spec.2.2.2
  have hev : (Term.length (.arg 0)).eval args s none [] s = some (.int xs.length.toInt32) := hx.length_eval hb
  have hv := Cond.le_ints hev (show (Term.int 3072).eval args s none [] s = some (.int 3072) from rfl)
  have hd : xs.length.toInt32 ≤ 3072 := by
    simpa [Cond.before, Cond.holds, hv] using hle
  have hN : xs.length ≤ 3072 := (Int32.ofNat_le_ofNat hsm (by decide)).mp (show Int32.ofNat xs.length ≤ Int32.ofNat 3072 from hd)
  exact ⟨b, xs, Cond.one_arg hc (show args[0]? = some (.ref b) from hb), hx, hN, h⟩
theorem lw_comes (hyp : law_ok) (l : Launch) (hl0 : l.stackTraces = false) : Comes l x (Jvm.Cond.code x code maxLocals ret :: tables_1) room_1 (fun tb e args s => Calls_1 tb e args s ∧ rest_1 tb e args s ∧ Pre_1 tb e args s)
    (fun _ _ args s o t => lw_Q args s o t) := by
  intro p e ha hc hk s m args below hf hfit hheap happ hpre
  obtain ⟨b, xs, hP⟩ := lw_pre_spec hpre.2.2 hpre.2.1
  obtain ⟨k, o, h1, h2, h3, hQ⟩ := lw_walk hyp l hl0 b xs p e ha hc hk s m args below hf ((Spec.applies_iff_loose hf).mp happ).1 hP trivial
  exact ⟨k, o, h1, h2, h3, hQ⟩
theorem lw_frame {s t : State} {o : Outcome} {args : Array Value} (h : Framed s o t [] 601024 7293034) :
    Framed s o t (fieldLocs frame_1_writes args s ++ arrayLocs frame_1_arrays args s ++ staticLocs frame_1_statics s) 601024 7293034 := h
theorem lw_limb (hyp : law_ok) (L : Cond) (hL : ∀ (args : Array Value) (s t : State), L.after args s (.returned (some (.int 1))) t = true) :
    ArmFor flags0 classFile x code maxLocals ret World_1 tables_1 room_1 Calls_1 rest_1 Pre_1
      (fun tb e a s o t => postC L tb e a s o t ∧ Framed s o t (fieldLocs frame_1_writes a s ++ arrayLocs frame_1_arrays a s ++ staticLocs frame_1_statics s) 601024 7293034) := by
  intro l hfl _ _ p e ha hc hk s m args below hf hfit hheap happ hpre
  obtain ⟨k, o, h1, h2, h3, rfl, hF⟩ := lw_comes hyp l (by unfold Launch.stackTraces; rw [hfl]; decide +kernel) p e ha hc hk s m args below hf hfit hheap happ hpre
  exact ⟨k, _, h1, h2, h3, hL args s _, lw_frame hF⟩
theorem claim_of (hyp : law_ok) : Claimed_1_1 ∧ Claimed_1_2 := ⟨lw_limb hyp limb_1_1 (fun args s t => by simp [limb_1_1, Cond.after, Cond.holds, Cond.value]), lw_limb hyp limb_1_2 (fun args s t => Cond.after_iff.mpr (by
  first | (rw [show limb_1_2 = Cond.eq .result (.int 1) from rfl, Cond.eq_ints (x := 1) (y := 1) rfl rfl]; simp; done) | (simp [limb_1_2, Cond.value, Term.eval]; done)))⟩
