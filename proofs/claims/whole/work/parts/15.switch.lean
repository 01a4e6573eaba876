theorem s_tsw {d a : Nat} {M : q_Mt} {pc : Nat} {L : List (Option Value)} {st : List Value} {x : Int32} {w : q_Sm} {Q : s_Po} {X : s_Xo} {dflt lo hi : Int} {offs : Array Int} {len : Nat} (tg : Nat) (ts : List Nat) (hd : decode M.2.2.1 pc = .ok (.tableswitch dflt lo hi offs, len)) (h1 : (pc : Int) + dflt = (tg : Int)) (h2 : offs.toList = ts.map (fun (q : Nat) => (q : Int) - (pc : Int))) (h3 : hi = lo + ts.length - 1)
    (k1 : (x.toInt < lo ∨ hi < x.toInt) → s_Ex d a M tg L st w Q X) (k2 : ∀ (j q : Nat), ts[j]? = some q → x.toInt = lo + j → s_Ex d a M q L st w Q X) : s_Ex d a M pc L (.int x :: st) w Q X := by
  intro G p l e R s m args below meth c Z C g1 g2 g3 g4 H locs cells slots ls f1 f0 f2 f3 f4 f5
  obtain ⟨hexec, hb, -⟩ := id C
  by_cases hx : x.toInt < lo ∨ hi < x.toInt
  · exact lv_tableOut hexec hb hd hx h1 (k1 hx G p l e R s m args below meth c Z C g1 g2 g3 g4 H locs cells slots ls f1 f0 f2 f3 f4 f5)
  · have hlt : (x.toInt - lo).toNat < ts.length := by omega
    have hq : ts[(x.toInt - lo).toNat]? = some (ts[(x.toInt - lo).toNat]) := List.getElem?_eq_getElem hlt
    have ho : offs[(x.toInt - lo).toNat]? = some ((ts[(x.toInt - lo).toNat] : Int) - (pc : Int)) := by
      rw [← Array.getElem?_toList, h2, List.getElem?_map, hq]
      rfl
    exact lv_tableIn hexec hb hd (fun h => hx (Or.inl h)) (fun h => hx (Or.inr h)) ho (by omega) (k2 _ _ hq (by omega) G p l e R s m args below meth c Z C g1 g2 g3 g4 H locs cells slots ls f1 f0 f2 f3 f4 f5)
theorem s_lsw2 {d a : Nat} {M : q_Mt} {pc : Nat} {L : List (Option Value)} {st : List Value} {x : Int32} {w : q_Sm} {Q : s_Po} {X : s_Xo} {dflt o0 o1 : Int} {len : Nat} (t0 t1 tg : Nat) (hd : decode M.2.2.1 pc = .ok (.lookupswitch dflt #[(0, o0), (1, o1)], len)) (h0 : (pc : Int) + o0 = (t0 : Int)) (h1 : (pc : Int) + o1 = (t1 : Int)) (h2 : (pc : Int) + dflt = (tg : Int))
    (k0 : x.toInt = 0 → s_Ex d a M t0 L st w Q X) (k1 : x.toInt = 1 → s_Ex d a M t1 L st w Q X) (k2 : ¬ x.toInt = 0 ∧ ¬ x.toInt = 1 → s_Ex d a M tg L st w Q X) : s_Ex d a M pc L (.int x :: st) w Q X := by
  intro G p l e R s m args below meth c Z C g1 g2 g3 g4 H locs cells slots ls f1 f0 f2 f3 f4 f5
  obtain ⟨hexec, hb, -⟩ := id C
  by_cases c0 : x.toInt = 0
  · refine lv_lookup hexec hb hd rfl (off := o0) ?_ h0 (k0 c0 G p l e R s m args below meth c Z C g1 g2 g3 g4 H locs cells slots ls f1 f0 f2 f3 f4 f5)
    rw [c0]
    rfl
  · by_cases c1 : x.toInt = 1
    · refine lv_lookup hexec hb hd rfl (off := o1) ?_ h1 (k1 c1 G p l e R s m args below meth c Z C g1 g2 g3 g4 H locs cells slots ls f1 f0 f2 f3 f4 f5)
      rw [c1]
      rfl
    · refine lv_lookup hexec hb hd rfl (off := dflt) ?_ h2 (k2 ⟨c0, c1⟩ G p l e R s m args below meth c Z C g1 g2 g3 g4 H locs cells slots ls f1 f0 f2 f3 f4 f5)
      have e0 : ¬ (0 : Int) = x.toInt := fun h => c0 h.symm
      have e1 : ¬ (1 : Int) = x.toInt := fun h => c1 h.symm
      simp [Op.lookupswitch.offset, e0, e1, c0, c1]
/-- ints copied from one row to another -/
def q_cp (w : q_Sm) (src sp dst dp n : Nat) : q_Sm := (fun i j => if i = dst then (if dp ≤ j ∧ j < dp + n then w.1 src (sp + (j - dp)) else w.1 i j) else w.1 i j, w.2)
theorem q_ofWF {l : Launch} {y : MethodName} {ws ws' : List Cond} {rm : Room} {Pc : Array Value → State → Prop} {Qc : Array Value → State → Outcome → State → Prop} {XC : String → State → State → Prop} {mc ms : Nat} {free : Addr → Prop} {cc : ByteArray} {maxL : Nat} {ret : Option FieldType}
    (hy : plainFor y = true) (hw : ws = Cond.code y cc maxL ret :: ws')
    (body : ∀ p e s m args below meth c s₁, BodyLoose p l y (headSpec ws rm) cc maxL ret e s m args below meth c s₁ → c.maxLocals = maxL → (∀ x ∈ c.exceptionTable.toList, False) → Pc args s →
      W p l e (headSpec ws rm).room s m args below meth c s.heap [] 0 0 (vx_MQ below Qc XC args s mc ms free) (entryFrame m args maxL)) : vx_Met l y ws rm Pc Qc XC mc ms free := by
  refine MetFree.of_bodySF (code := cc) (maxLocals := maxL) (ret := ret) hy ?_ ?_
  · intro args s m h hn
    obtain ⟨meth, c, h1, h2, h3, h4, h5, h6, -, -⟩ := Cond.code_spec hn (atoms_spec (ws := ws) h _ (by rw [hw]; exact List.mem_cons_self))
    exact ⟨meth, c, h1, h2, h3, h4, h5, h6⟩
  · intro p e s m args below meth c s₁ B hml hP _
    have hh0 : s₁.heap = s.heap := by rw [B.state]; rfl
    have ht : ∀ x ∈ c.exceptionTable.toList, False := by
      obtain ⟨meth9, c9, h1, h2, -, -, -, -, h7, -⟩ := Cond.code_spec B.named (atoms_spec (ws := ws) B.pre _ (by rw [hw]; exact List.mem_cons_self))
      cases Option.some.inj (h1.symm.trans B.method)
      cases Option.some.inj (h2.symm.trans (Stand.of_body B).code)
      intro x hx
      rw [Array.isEmpty_iff.mp h7] at hx
      cases hx
    obtain ⟨t, a1, o, b1, b2, b3⟩ := body p e s m args below meth c s₁ B hml ht hP s₁ hh0 (Stand.of_body B)
    exact ⟨t, o, a1, b1, b2, b3⟩
theorem q_ev_ofF {d a b : Nat} {M : q_Mt} {n : Nat} {t : Bool} {w : q_Mem} {As : List Value} {Q : q_Po} {X : q_Xo} (hy : plainFor M.2.1 = true) (hown : M.2.1.cls = q_own M.1) (hlen : (q_ent As).length ≤ M.2.2.2.1)
    (h : q_Ex d a b M n t (0, q_entry As M.2.2.2.1, [], w) Q X) : q_Ev d a b M n t w As Q X := by
  intro l G hl
  refine q_ofWF (cc := M.2.2.1) (maxL := M.2.2.2.1) (ret := M.2.2.2.2) hy rfl ?_
  intro p e s m args below meth c s₁ B hml hex hv
  obtain ⟨rfl, hP, ht, hK, hF⟩ := hv
  have hts0 := atoms_spec (ws := q_wd M) B.pre
  have C : q_Cx G p l s m (As.map (q_tv G)).toArray c M.1 M.2.2.1 M.2.2.2.1 := ⟨B.exec, B.bytes, hml, by rw [← hown]; exact findClass_of_methodNamed B.named, fun w hw => hts0 w (List.mem_cons_of_mem _ hw), hK, hF, hl⟩
  have hr := B.returns
  have hlocks := B.notSynchronized
  have hx := B.exec
  have hb := B.bytes
  have hent := lv_entry (As.map (q_tv G)) (n := M.2.2.2.1) (by rw [q_ent_len]; exact hlen)
  rw [lg_entry_eq]
  generalize (lg_sl (As.map (q_tv G)) ++ List.replicate (M.2.2.2.1 - (lg_sl (As.map (q_tv G))).length) Slot.unset).toArray = ls at hent ⊢
  have hlv : q_lv G ls M.2.2.2.1 (q_entry As M.2.2.2.1) := by
    refine ⟨hent.1, hent.2.1, fun i v hi => ?_⟩
    have h1 : (q_ent As)[i]? = some (some v) := by
      unfold q_entry at hi
      rw [List.getElem?_append] at hi
      split at hi
      · exact hi
      · rw [List.getElem?_replicate] at hi
        split at hi <;> cases hi
    have h2 := hent.2.2 _ (q_ent_mem (G := G) As 0 i v h1)
    rw [Nat.zero_add] at h2
    exact h2
  refine h G p l e _ s m _ below meth c _ C (Nat.le_refl _) (Nat.le_refl _) ?_ ?_ s.heap [] 0 0 ls hP (fun h9 => by rw [Nat.add_zero]; exact ht h9) va_S.rf hlv (by rw [Nat.zero_add]; exact Nat.le_refl _) (by rw [Nat.zero_add]; exact Nat.le_refl _)
  · intro r n' w' H locs cells slots ls' pc hQ hn hh _ hS hc hs hd
    refine W.widen (k := a) (n := b) hc hs ?_
    refine vx_ret ?_
    cases r with
    | none =>
      have hn : M.2.2.2.2 = none := hn
      exact W.vret hx hb (hr.trans hn) (fun u hu hW => ⟨⟨none, n', w', rfl, hQ, by rw [hu]; exact hh⟩, hS.F hu⟩) hS.2.2 hd
    | some v =>
      cases v with
      | int v =>
        obtain ⟨ty, h1, h2⟩ := hn
        exact W.zret hx hb (hr.trans h1) h2 (fun u hu hW => ⟨⟨some (.int v), n', w', rfl, hQ, by rw [hu]; exact hh⟩, hS.F hu⟩) hS.2.2 hd
      | long v =>
        have hn : M.2.2.2.2 = some .long := hn
        exact W.lret hx hb (hr.trans hn) (fun u hu hW => ⟨⟨some (.long v), n', w', rfl, hQ, by rw [hu]; exact hh⟩, hS.F hu⟩) hS.2.2 hd
      | _ => exact (show False from hn).elim
  · intro E n' w' H locs cells slots ls' pc rest q ce hX hh hS hc hs h1 h2 h3
    exact vx_out (fun x hx9 => (hex x hx9).elim) hlocks h1 h2 h3 (fun u hu _ => ⟨⟨n', w', hX, by rw [hu]; exact hh⟩, hS.F hu⟩) hS.2.2 hc hs
theorem s_ofF {d a : Nat} {M : q_Mt} {w : q_Sm} {As : List Value} {Q : s_Po} {X : s_Xo} (hy : plainFor M.2.1 = true) (hown : M.2.1.cls = q_own M.1) (hlen : (q_ent As).length ≤ M.2.2.2.1) (h : s_Ex d a M 0 (q_entry As M.2.2.2.1) [] w Q X) : s_Ev d a M w As Q X := q_ev_ofF hy hown hlen h
