def q_fin (x k : Nat) : Bool := (q_T x k).2.2.2
def q_isIntTy : FieldType → Bool
  | .int => true
  | _ => false
def q_isRefTy : FieldType → Bool
  | .object _ => true
  | _ => false
/-- what can be said of an instruction without its run -/
def q_res (o nL pc : Nat) (i : q_RI) : Bool := match i.1 with
  | .nop => i.2.1 == 0
  | .goto off => i.2.1 == 3 && decide ((pc : Int) + off = (i.2.2.1 : Int))
  | .ldc idx => i.2.1 == 2 && (if i.2.2.1 = 1 then decide (i.2.2.2 < 51) && decide ((q_SC.getD i.2.2.2 ("", 0, "")).1 = q_own o) && decide ((q_SC.getD i.2.2.2 ("", 0, "")).2.1 = idx) else q_CW.contains (o, idx, i.2.2.2))
  | .ldc_w idx => i.2.1 == 3 && (if i.2.2.1 = 1 then decide (i.2.2.2 < 51) && decide ((q_SC.getD i.2.2.2 ("", 0, "")).1 = q_own o) && decide ((q_SC.getD i.2.2.2 ("", 0, "")).2.1 = idx) else q_CW.contains (o, idx, i.2.2.2))
  | .ldc2_w idx => i.2.1 == 3 && q_LW.contains (o, idx, i.2.2.2)
  | .bipush _ => i.2.1 == 2
  | .sipush _ => i.2.1 == 3
  | .iload _ => i.2.1 == 2
  | .lload _ => i.2.1 == 2
  | .aload _ => i.2.1 == 2
  | .istore k => i.2.1 == 2 && decide (k < nL)
  | .istore_n k => i.2.1 == 1 && decide (k.val < nL)
  | .lstore k => i.2.1 == 2 && decide (k + 1 < nL)
  | .lstore_n k => i.2.1 == 1 && decide (k.val + 1 < nL)
  | .astore k => i.2.1 == 2 && decide (k < nL)
  | .astore_n k => i.2.1 == 1 && decide (k.val < nL)
  | .iinc k _ => i.2.1 == 3 && decide (k < nL)
  | .getstatic idx => i.2.1 == 3 && (if i.2.2.1 = 0 then q_TG.contains (o, idx) else q_TH.contains (o, idx))
  | .getfield idx => if i.2.2.1 = 50 then i.2.1 == 3 && q_TF.contains (o, idx, i.2.2.2) else i.2.1 == 3 && decide (i.2.2.1 < 13) && decide (i.2.2.2 < q_N i.2.2.1) && (q_FR.contains (o, idx, i.2.2.1, i.2.2.2) || q_FN.contains (o, idx, i.2.2.1, i.2.2.2))
  | .putfield idx => i.2.1 == 3 && decide (i.2.2.1 < 13) && decide (i.2.2.2 < q_N i.2.2.1) && q_FR.contains (o, idx, i.2.2.1, i.2.2.2) && !q_fin i.2.2.1 i.2.2.2 && (if q_ir i.2.2.1 i.2.2.2 then q_isRefTy (q_ty i.2.2.1 i.2.2.2) else q_isIntTy (q_ty i.2.2.1 i.2.2.2))
  | .baload => i.2.1 == 1 && (decide (i.2.2.1 = 13) || decide (i.2.2.1 = 16))
  | .bastore => i.2.1 == 1 && (decide (i.2.2.1 = 13) || decide (i.2.2.1 = 16))
  | _ => i.2.1 == 1
def q_nx (pc : Nat) (i : q_RI) : Nat := match i.1 with
  | .nop => pc
  | .goto _ => i.2.2.1
  | _ => pc + i.2.1
section QStep
variable {G : q_G} {p : Program} {l : Launch} {e : Env} {R : Room} {s : State} {m : MethodId} {args : Array Value} {below : List Frame} {meth : Method} {c : Code} {Z : State → Prop} {o nL n : Nat} {cc : ByteArray} {t : Bool} {a b : Nat} {cf : q_Cf}
theorem q_pu_ok {len : Nat} {v : Value}
    (row : ∀ (H : Heap) (locs : List Loc) (cells slots : Nat) (ls : Array Slot) (rest : List Value), W p l e R s m args below meth c H locs cells slots Z (F0 m (cf.1 + len) ls (q_tv G v :: rest)) → W p l e R s m args below meth c H locs cells slots Z (F0 m cf.1 ls rest)) :
    (q_pu len v cf).1.1 = cf.1 + len ∧ (q_Go G p l e R s m args below meth c Z nL n t a b (q_pu len v cf).1 → q_Go G p l e R s m args below meth c Z nL n t a b cf) :=
  by
  obtain ⟨pc, L, st, w⟩ := cf
  exact ⟨rfl, fun k H locs cells slots ls h1 h0 h2 h3 h4 h5 => row _ _ _ _ _ _ (k H locs cells slots ls h1 h0 h2 h3 h4 h5)⟩
theorem q_ld_ok {i len : Nat} {kk : Option Value → List Prop} {g : Value → Prop}
    (hk : ∀ x, q_all (kk x) → ∃ v, x = some v ∧ g v)
    (row : ∀ (v : Value) (H : Heap) (locs : List Loc) (cells slots : Nat) (ls : Array Slot) (rest : List Value), g v → ls[i]? = some (.val (q_tv G v)) → W p l e R s m args below meth c H locs cells slots Z (F0 m (cf.1 + len) ls (q_tv G v :: rest)) → W p l e R s m args below meth c H locs cells slots Z (F0 m cf.1 ls rest))
    (hP : q_all (q_ld i len kk cf).2) :
    (q_ld i len kk cf).1.1 = cf.1 + len ∧ (q_Go G p l e R s m args below meth c Z nL n t a b (q_ld i len kk cf).1 → q_Go G p l e R s m args below meth c Z nL n t a b cf) := by
  obtain ⟨pc, L, st, w⟩ := cf
  refine ⟨rfl, fun k H locs cells slots ls h1 h0 h2 h3 h4 h5 => ?_⟩
  obtain ⟨v, hv, hg⟩ := hk _ hP
  have hi : L[i]? = some (some v) := by
    rw [List.getD_eq_getElem?_getD] at hv
    cases hx : L[i]? with
    | none => rw [hx] at hv; cases hv
    | some u => rw [hx] at hv; cases hv; rfl
  have hq : q_v L i = v := by unfold q_v; rw [hv]; rfl
  have k2 := k H locs cells slots ls h1 h0 h2 h3 h4 h5
  unfold q_ld at k2
  dsimp only at k2
  rw [hq] at k2
  exact row v H locs cells slots ls _ hg (h3.2.2 i v hi) k2
theorem q_kI_of {x : Option Value} (h : q_all (q_kI x)) : ∃ v, x = some v ∧ ∃ k, v = .int k := by
  unfold q_kI at h
  split at h
  · exact ⟨_, rfl, _, rfl⟩
  · exact h.elim
theorem q_kJ_of {x : Option Value} (h : q_all (q_kJ x)) : ∃ v, x = some v ∧ ∃ k, v = .long k := by
  unfold q_kJ at h
  split at h
  · exact ⟨_, rfl, _, rfl⟩
  · exact h.elim
theorem q_kR_of {x : Option Value} (h : q_all (q_kR x)) : ∃ v, x = some v ∧ ∀ G, q_tv G v = .null ∨ ∃ q, q_tv G v = .ref q := by
  unfold q_kR at h
  split at h
  · rename_i i
    refine ⟨_, rfl, fun G => ?_⟩
    by_cases hi : i = 0
    · exact Or.inl (by simp [q_tv, hi])
    · exact Or.inr ⟨G.2.2.1 + i, by simp [q_tv, hi]⟩
  · rename_i k
    refine ⟨_, rfl, fun G => ?_⟩
    unfold q_tv
    dsimp only
    split
    · exact Or.inr ⟨_, rfl⟩
    · split
      · exact Or.inr ⟨_, rfl⟩
      · cases hG : G.2.2.2.2.2 with
        | none => exact Or.inl rfl
        | some q => exact Or.inr ⟨q, rfl⟩
  · exact h.elim
theorem q_ii_ok {f : Int32 → Int32 → Int32} {d : Int32 → Int32 → List Prop}
    (row : ∀ (x y : Int32) (H : Heap) (locs : List Loc) (cells slots : Nat) (ls : Array Slot) (rest : List Value), q_all (d x y) → W p l e R s m args below meth c H locs cells slots Z (F0 m (cf.1 + 1) ls (.int (f x y) :: rest)) → W p l e R s m args below meth c H locs cells slots Z (F0 m cf.1 ls (.int y :: .int x :: rest)))
    (hP : q_all (q_ii f d cf).2) :
    (q_ii f d cf).1.1 = cf.1 + 1 ∧ (q_Go G p l e R s m args below meth c Z nL n t a b (q_ii f d cf).1 → q_Go G p l e R s m args below meth c Z nL n t a b cf) := by
  obtain ⟨pc, L, st, w⟩ := cf
  revert hP
  unfold q_ii
  dsimp only
  split
  · intro hP
    exact ⟨rfl, fun k H locs cells slots ls h1 h0 h2 h3 h4 h5 => row _ _ _ _ _ _ _ _ hP (k H locs cells slots ls h1 h0 h2 h3 h4 h5)⟩
  · intro hP
    exact hP.elim
theorem q_jj_ok {f : Int64 → Int64 → Int64} {d : Int64 → Int64 → List Prop}
    (row : ∀ (x y : Int64) (H : Heap) (locs : List Loc) (cells slots : Nat) (ls : Array Slot) (rest : List Value), q_all (d x y) → W p l e R s m args below meth c H locs cells slots Z (F0 m (cf.1 + 1) ls (.long (f x y) :: rest)) → W p l e R s m args below meth c H locs cells slots Z (F0 m cf.1 ls (.long y :: .long x :: rest)))
    (hP : q_all (q_jj f d cf).2) :
    (q_jj f d cf).1.1 = cf.1 + 1 ∧ (q_Go G p l e R s m args below meth c Z nL n t a b (q_jj f d cf).1 → q_Go G p l e R s m args below meth c Z nL n t a b cf) := by
  obtain ⟨pc, L, st, w⟩ := cf
  revert hP
  unfold q_jj
  dsimp only
  split
  · intro hP
    exact ⟨rfl, fun k H locs cells slots ls h1 h0 h2 h3 h4 h5 => row _ _ _ _ _ _ _ _ hP (k H locs cells slots ls h1 h0 h2 h3 h4 h5)⟩
  · intro hP
    exact hP.elim
theorem q_i1_ok {f : Int32 → Int32}
    (row : ∀ (x : Int32) (H : Heap) (locs : List Loc) (cells slots : Nat) (ls : Array Slot) (rest : List Value), W p l e R s m args below meth c H locs cells slots Z (F0 m (cf.1 + 1) ls (.int (f x) :: rest)) → W p l e R s m args below meth c H locs cells slots Z (F0 m cf.1 ls (.int x :: rest)))
    (hP : q_all (q_i1 f cf).2) :
    (q_i1 f cf).1.1 = cf.1 + 1 ∧ (q_Go G p l e R s m args below meth c Z nL n t a b (q_i1 f cf).1 → q_Go G p l e R s m args below meth c Z nL n t a b cf) := by
  obtain ⟨pc, L, st, w⟩ := cf
  revert hP
  unfold q_i1
  dsimp only
  split
  · intro hP
    exact ⟨rfl, fun k H locs cells slots ls h1 h0 h2 h3 h4 h5 => row _ _ _ _ _ _ _ (k H locs cells slots ls h1 h0 h2 h3 h4 h5)⟩
  · intro hP
    exact hP.elim
theorem q_sti_ok {i len : Nat}
    (row : ∀ (x : Int32) (H : Heap) (locs : List Loc) (cells slots : Nat) (ls : Array Slot) (rest : List Value) (lv : List (Nat × Value)), lv_has ls nL lv → (∀ ls' : Array Slot, lv_has ls' nL ((i, Value.int x) :: lv.filter (fun q => !(q.1 == i) && !(q.1 + 1 == i && q.2.category == 2))) → W p l e R s m args below meth c H locs cells slots Z (F0 m (cf.1 + len) ls' rest)) → W p l e R s m args below meth c H locs cells slots Z (F0 m cf.1 ls (.int x :: rest)))
    (hP : q_all (q_sti i len cf).2) :
    (q_sti i len cf).1.1 = cf.1 + len ∧ (q_Go G p l e R s m args below meth c Z nL n t a b (q_sti i len cf).1 → q_Go G p l e R s m args below meth c Z nL n t a b cf) := by
  obtain ⟨pc, L, st, w⟩ := cf
  revert hP
  unfold q_sti
  dsimp only
  split
  · intro hP
    exact ⟨rfl, fun k H locs cells slots ls h1 h0 h2 h3 h4 h5 => row _ _ _ _ _ _ _ _ h3.has (fun ls' h => k H locs cells slots ls' h1 h0 h2 (q_lv.st1 (v := .int _) h) h4 h5)⟩
  · intro hP
    exact hP.elim
theorem q_stj_ok {i len : Nat}
    (row : ∀ (x : Int64) (H : Heap) (locs : List Loc) (cells slots : Nat) (ls : Array Slot) (rest : List Value) (lv : List (Nat × Value)), lv_has ls nL lv → (∀ ls' : Array Slot, lv_has ls' nL ((i, Value.long x) :: lv.filter (fun q => !(q.1 == i) && (!(q.1 == i + 1) && !(q.1 + 1 == i && q.2.category == 2)))) → W p l e R s m args below meth c H locs cells slots Z (F0 m (cf.1 + len) ls' rest)) → W p l e R s m args below meth c H locs cells slots Z (F0 m cf.1 ls (.long x :: rest)))
    (hP : q_all (q_stj i len cf).2) :
    (q_stj i len cf).1.1 = cf.1 + len ∧ (q_Go G p l e R s m args below meth c Z nL n t a b (q_stj i len cf).1 → q_Go G p l e R s m args below meth c Z nL n t a b cf) := by
  obtain ⟨pc, L, st, w⟩ := cf
  revert hP
  unfold q_stj
  dsimp only
  split
  · intro hP
    exact ⟨rfl, fun k H locs cells slots ls h1 h0 h2 h3 h4 h5 => row _ _ _ _ _ _ _ _ h3.has (fun ls' h => k H locs cells slots ls' h1 h0 h2 (q_lv.st2 (v := .long _) h) h4 h5)⟩
  · intro hP
    exact hP.elim
theorem q_sta_ok {i len : Nat}
    (row : ∀ (x : Nat) (H : Heap) (locs : List Loc) (cells slots : Nat) (ls : Array Slot) (rest : List Value) (lv : List (Nat × Value)), lv_has ls nL lv → (∀ ls' : Array Slot, lv_has ls' nL ((i, q_tv G (.ref x)) :: lv.filter (fun q => !(q.1 == i) && !(q.1 + 1 == i && q.2.category == 2))) → W p l e R s m args below meth c H locs cells slots Z (F0 m (cf.1 + len) ls' rest)) → W p l e R s m args below meth c H locs cells slots Z (F0 m cf.1 ls (q_tv G (.ref x) :: rest)))
    (hP : q_all (q_sta i len cf).2) :
    (q_sta i len cf).1.1 = cf.1 + len ∧ (q_Go G p l e R s m args below meth c Z nL n t a b (q_sta i len cf).1 → q_Go G p l e R s m args below meth c Z nL n t a b cf) := by
  obtain ⟨pc, L, st, w⟩ := cf
  revert hP
  unfold q_sta
  dsimp only
  split
  · intro hP
    exact ⟨rfl, fun k H locs cells slots ls h1 h0 h2 h3 h4 h5 => row _ _ _ _ _ _ _ _ h3.has (fun ls' h => k H locs cells slots ls' h1 h0 h2 (q_lv.st1 (v := .ref _) h) h4 h5)⟩
  · intro hP
    exact hP.elim
theorem q_inc_ok {i : Nat} {d : Int}
    (row : ∀ (x : Int32) (H : Heap) (locs : List Loc) (cells slots : Nat) (ls : Array Slot) (rest : List Value) (lv : List (Nat × Value)) (k : Nat), lv_has ls nL lv → lv[k]? = some (i, .int x) → (∀ ls' : Array Slot, lv_has ls' nL ((i, Value.int (x + Int32.ofInt d)) :: lv.filter (fun q => !(q.1 == i) && !(q.1 + 1 == i && q.2.category == 2))) → W p l e R s m args below meth c H locs cells slots Z (F0 m (cf.1 + 3) ls' rest)) → W p l e R s m args below meth c H locs cells slots Z (F0 m cf.1 ls rest))
    (hP : q_all (q_inc i d cf).2) :
    (q_inc i d cf).1.1 = cf.1 + 3 ∧ (q_Go G p l e R s m args below meth c Z nL n t a b (q_inc i d cf).1 → q_Go G p l e R s m args below meth c Z nL n t a b cf) := by
  obtain ⟨pc, L, st, w⟩ := cf
  revert hP
  unfold q_inc
  dsimp only
  split
  · rename_i x hx
    intro hP
    refine ⟨rfl, fun k H locs cells slots ls h1 h0 h2 h3 h4 h5 => ?_⟩
    have hi : L[i]? = some (some (.int x)) := by
      rw [List.getD_eq_getElem?_getD] at hx
      cases hy : L[i]? with
      | none => rw [hy] at hx; cases hx
      | some u => rw [hy] at hx; cases hx; rfl
    obtain ⟨q, hq⟩ := List.getElem?_of_mem (q_as_mem (G := G) hi)
    exact row x _ _ _ _ _ _ _ q h3.has hq (fun ls' h => k H locs cells slots ls' h1 h0 h2 (q_lv.st1 (v := .int _) h) h4 h5)
  · intro hP
    exact hP.elim
end QStep
