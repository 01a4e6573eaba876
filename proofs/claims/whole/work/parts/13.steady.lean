/-- the cells of the two coasts, laws and books: now, draft -/
abbrev q_Cu : Type := Nat × Nat × Nat × Nat × Nat × Nat
/-- ints, longs, what is now -/
abbrev q_Sm : Type := (Nat → Nat → Int32) × (Nat → Nat → Int64) × q_Cu
def q_R11 (cu : q_Cu) (k : Nat) : Nat := match k with
  | 0 => 2
  | 1 => cu.1
  | 2 => cu.2.1
  | 3 => cu.2.2.1
  | 4 => cu.2.2.2.1
  | 5 => cu.2.2.2.2.1
  | 6 => cu.2.2.2.2.2
  | 7 => 52
  | 8 => 56
  | 9 => 58
  | 10 => 60
  | 15 => 67
  | 16 => 70
  | 17 => 73
  | 18 => 77
  | _ => 0
def q_Off : List (List Nat) := [[1, 0, 0, 0], [0, 1, 2, 3, 0, 0, 0], [0, 1, 2, 0, 3, 4, 5, 6, 7, 8, 0, 9, 10, 11, 0, 12, 13, 14, 0, 15], [1, 2, 0, 0], [1, 0, 0], [1, 0, 2, 3], [1], [1, 2, 3, 0], [1, 0], [1, 2, 3, 0, 0, 0, 0], [1, 0, 0, 0, 0, 0, 0], [0, 0, 0, 0, 0, 0, 0, 0, 0, 0, 0, 0, 0, 0, 0, 0, 0, 0, 0], [0, 1, 0, 0, 0, 0, 0, 0, 0, 2, 3, 4, 5, 6, 7, 8, 9, 10, 11, 12, 13, 14, 15, 16, 0, 0, 0, 0, 0, 0, 0, 0, 0, 0, 17, 18, 19, 20, 21, 0, 0, 22, 23, 24, 0, 0, 0, 0, 0, 0, 25, 26, 27, 28, 29, 0, 30, 31, 32, 33, 34, 0, 35, 0, 0, 36, 0]]
/-- which cell a field names, once all are made -/
def q_R (cu : q_Cu) : Nat → Nat → Nat → Nat := fun x id k => if x = 11 then (if id = 1 then q_R11 cu k else 0) else if x = 17 then id + 1 + 2 * k else id + (q_Off.getD x []).getD k 0
theorem qR_1 (cu : q_Cu) (r : Nat) : q_upR (q_R cu) 11 1 1 r = q_R (r, cu.2.1, cu.2.2.1, cu.2.2.2.1, cu.2.2.2.2.1, cu.2.2.2.2.2) := by
  funext x id k
  by_cases hx : x = 11
  · subst hx
    by_cases hid : id = 1
    · subst hid
      by_cases hk : k = 1
      · subst hk; rfl
      · have e1 : q_upR (q_R cu) 11 1 1 r 11 1 k = q_R11 cu k := by simp [q_upR, q_R, hk]
        rw [e1]
        show q_R11 cu k = q_R11 (r, cu.2.1, cu.2.2.1, cu.2.2.2.1, cu.2.2.2.2.1, cu.2.2.2.2.2) k
        unfold q_R11
        split <;> first | rfl | (exact absurd rfl hk)
    · simp [q_upR, q_R, hid]
  · simp [q_upR, q_R, hx]
theorem qR_2 (cu : q_Cu) (r : Nat) : q_upR (q_R cu) 11 1 2 r = q_R (cu.1, r, cu.2.2.1, cu.2.2.2.1, cu.2.2.2.2.1, cu.2.2.2.2.2) := by
  funext x id k
  by_cases hx : x = 11
  · subst hx
    by_cases hid : id = 1
    · subst hid
      by_cases hk : k = 2
      · subst hk; rfl
      · have e1 : q_upR (q_R cu) 11 1 2 r 11 1 k = q_R11 cu k := by simp [q_upR, q_R, hk]
        rw [e1]
        show q_R11 cu k = q_R11 (cu.1, r, cu.2.2.1, cu.2.2.2.1, cu.2.2.2.2.1, cu.2.2.2.2.2) k
        unfold q_R11
        split <;> first | rfl | (exact absurd rfl hk)
    · simp [q_upR, q_R, hid]
  · simp [q_upR, q_R, hx]
theorem qR_3 (cu : q_Cu) (r : Nat) : q_upR (q_R cu) 11 1 3 r = q_R (cu.1, cu.2.1, r, cu.2.2.2.1, cu.2.2.2.2.1, cu.2.2.2.2.2) := by
  funext x id k
  by_cases hx : x = 11
  · subst hx
    by_cases hid : id = 1
    · subst hid
      by_cases hk : k = 3
      · subst hk; rfl
      · have e1 : q_upR (q_R cu) 11 1 3 r 11 1 k = q_R11 cu k := by simp [q_upR, q_R, hk]
        rw [e1]
        show q_R11 cu k = q_R11 (cu.1, cu.2.1, r, cu.2.2.2.1, cu.2.2.2.2.1, cu.2.2.2.2.2) k
        unfold q_R11
        split <;> first | rfl | (exact absurd rfl hk)
    · simp [q_upR, q_R, hid]
  · simp [q_upR, q_R, hx]
theorem qR_4 (cu : q_Cu) (r : Nat) : q_upR (q_R cu) 11 1 4 r = q_R (cu.1, cu.2.1, cu.2.2.1, r, cu.2.2.2.2.1, cu.2.2.2.2.2) := by
  funext x id k
  by_cases hx : x = 11
  · subst hx
    by_cases hid : id = 1
    · subst hid
      by_cases hk : k = 4
      · subst hk; rfl
      · have e1 : q_upR (q_R cu) 11 1 4 r 11 1 k = q_R11 cu k := by simp [q_upR, q_R, hk]
        rw [e1]
        show q_R11 cu k = q_R11 (cu.1, cu.2.1, cu.2.2.1, r, cu.2.2.2.2.1, cu.2.2.2.2.2) k
        unfold q_R11
        split <;> first | rfl | (exact absurd rfl hk)
    · simp [q_upR, q_R, hid]
  · simp [q_upR, q_R, hx]
theorem qR_5 (cu : q_Cu) (r : Nat) : q_upR (q_R cu) 11 1 5 r = q_R (cu.1, cu.2.1, cu.2.2.1, cu.2.2.2.1, r, cu.2.2.2.2.2) := by
  funext x id k
  by_cases hx : x = 11
  · subst hx
    by_cases hid : id = 1
    · subst hid
      by_cases hk : k = 5
      · subst hk; rfl
      · have e1 : q_upR (q_R cu) 11 1 5 r 11 1 k = q_R11 cu k := by simp [q_upR, q_R, hk]
        rw [e1]
        show q_R11 cu k = q_R11 (cu.1, cu.2.1, cu.2.2.1, cu.2.2.2.1, r, cu.2.2.2.2.2) k
        unfold q_R11
        split <;> first | rfl | (exact absurd rfl hk)
    · simp [q_upR, q_R, hid]
  · simp [q_upR, q_R, hx]
theorem qR_6 (cu : q_Cu) (r : Nat) : q_upR (q_R cu) 11 1 6 r = q_R (cu.1, cu.2.1, cu.2.2.1, cu.2.2.2.1, cu.2.2.2.2.1, r) := by
  funext x id k
  by_cases hx : x = 11
  · subst hx
    by_cases hid : id = 1
    · subst hid
      by_cases hk : k = 6
      · subst hk; rfl
      · have e1 : q_upR (q_R cu) 11 1 6 r 11 1 k = q_R11 cu k := by simp [q_upR, q_R, hk]
        rw [e1]
        show q_R11 cu k = q_R11 (cu.1, cu.2.1, cu.2.2.1, cu.2.2.2.1, cu.2.2.2.2.1, r) k
        unfold q_R11
        split <;> first | rfl | (exact absurd rfl hk)
    · simp [q_upR, q_R, hid]
  · simp [q_upR, q_R, hx]
def q_mm (w : q_Sm) : q_Mem := (w.1, w.2.1, q_R w.2.2)
def q_wI (w : q_Sm) (id k : Nat) (v : Int32) : q_Sm := (q_up w.1 id k v, w.2)
def q_wJ (w : q_Sm) (id k : Nat) (v : Int64) : q_Sm := (w.1, q_up w.2.1 id k v, w.2.2)
abbrev s_Po : Type := Option Value → q_Sm → Prop
abbrev s_Xo : Type := String → q_Sm → Prop
def s_Q (Q : s_Po) : q_Po := fun r n' w' => n' = 116 ∧ ∃ u, w' = q_mm u ∧ Q r u
def s_X (X : s_Xo) : q_Xo := fun E n' w' => n' = 116 ∧ ∃ u, w' = q_mm u ∧ X E u
/-- a method in the middle of its work, all cells made -/
def s_Ex (d a : Nat) (M : q_Mt) (pc : Nat) (L : List (Option Value)) (st : List Value) (w : q_Sm) (Q : s_Po) (X : s_Xo) : Prop := q_Ex d a (6 * a) M 116 false (pc, L, st, q_mm w) (s_Q Q) (s_X X)
def s_Ev (d a : Nat) (M : q_Mt) (w : q_Sm) (As : List Value) (Q : s_Po) (X : s_Xo) : Prop := q_Ev d a (6 * a) M 116 false (q_mm w) As (s_Q Q) (s_X X)
def s_I (Q : Int32 → q_Sm → Prop) : s_Po := fun r w => ∃ v, r = some (.int v) ∧ Q v w
def s_J (Q : Int64 → q_Sm → Prop) : s_Po := fun r w => ∃ v, r = some (.long v) ∧ Q v w
def s_V (Q : q_Sm → Prop) : s_Po := fun r w => r = none ∧ Q w
abbrev s_EvI (d a : Nat) (M : q_Mt) (w : q_Sm) (As : List Value) (Q : Int32 → q_Sm → Prop) (X : s_Xo) : Prop := s_Ev d a M w As (s_I Q) X
abbrev s_EvJ (d a : Nat) (M : q_Mt) (w : q_Sm) (As : List Value) (Q : Int64 → q_Sm → Prop) (X : s_Xo) : Prop := s_Ev d a M w As (s_J Q) X
abbrev s_EvV (d a : Nat) (M : q_Mt) (w : q_Sm) (As : List Value) (Q : q_Sm → Prop) (X : s_Xo) : Prop := s_Ev d a M w As (s_V Q) X
theorem s_of {d a : Nat} {M : q_Mt} {w : q_Sm} {As : List Value} {Q : s_Po} {X : s_Xo} (hy : plainName M.2.1.cls = true) (hown : M.2.1.cls = q_own M.1) (hlen : (q_ent As).length ≤ M.2.2.2.1) (h : s_Ex d a M 0 (q_entry As M.2.2.2.1) [] w Q X) : s_Ev d a M w As Q X := q_ev_of hy hown hlen h
def q_rn (n : Nat) (is : List q_RI) (cf : q_Cf) (acc : List Prop) : q_Cf × List Prop := ((q_run n is cf).1, acc ++ (q_run n is cf).2)
theorem q_rc {n : Nat} {i : q_RI} {r : List q_RI} {cf cf1 : q_Cf} {ps1 acc : List Prop} {R : q_Cf × List Prop} (h1 : q_stp n i cf = (cf1, ps1)) (h2 : q_rn n r cf1 (acc ++ ps1) = R) : q_rn n (i :: r) cf acc = R := by
  subst h2
  have e1 : q_run n (i :: r) cf = ((q_run n r (q_stp n i cf).1).1, (q_stp n i cf).2 ++ (q_run n r (q_stp n i cf).1).2) := rfl
  unfold q_rn
  rw [e1, h1, List.append_assoc]
theorem q_rz {n : Nat} {cf : q_Cf} {acc : List Prop} {R : q_Cf × List Prop} (h : (cf, acc) = R) : q_rn n [] cf acc = R := by
  rw [← h]
  unfold q_rn q_run
  rw [List.append_nil]
/-- the run of a stretch from a state of the system -/
def q_tn (is : List q_RI) (pc : Nat) (L : List (Option Value)) (st : List Value) (w : q_Sm) (acc : List Prop) (R : q_Cf × List Prop) : Prop := q_rn 116 is (pc, L, st, q_mm w) acc = R
section TStep
variable {is : List q_RI} {pc : Nat} {L L' : List (Option Value)} {st : List Value} {w : q_Sm} {acc : List Prop} {R : q_Cf × List Prop} {x y v : Int32} {xl yl vl : Int64} {k : Int} {i j id c1 c2 r : Nat}
theorem qt_z {pc' : Nat} {L9 : List (Option Value)} {st9 : List Value} {w9 : q_Sm} {ps : List Prop} (h1 : pc = pc') (h2 : L = L9) (h3 : st = st9) (h4 : w = w9) (h5 : acc = ps) : q_tn [] pc L st w acc ((pc', L9, st9, q_mm w9), ps) := by
  subst h1 h2 h3 h4 h5
  exact q_rz rfl
theorem qt_iconst (hv : Int32.ofInt k = v) (h : q_tn is (pc + 1) L (.int v :: st) w acc R) : q_tn ((.iconst k, 1, 0, 0) :: is) pc L st w acc R := by subst hv; exact q_rc rfl (by rw [List.append_nil]; exact h)
theorem qt_bipush (hv : (Int8.ofInt k).toInt32 = v) (h : q_tn is (pc + 2) L (.int v :: st) w acc R) : q_tn ((.bipush k, 2, 0, 0) :: is) pc L st w acc R := by subst hv; exact q_rc rfl (by rw [List.append_nil]; exact h)
theorem qt_sipush (hv : (Int16.ofInt k).toInt32 = v) (h : q_tn is (pc + 3) L (.int v :: st) w acc R) : q_tn ((.sipush k, 3, 0, 0) :: is) pc L st w acc R := by subst hv; exact q_rc rfl (by rw [List.append_nil]; exact h)
theorem qt_lconst {q : Fin 2} (hv : Int64.ofNat q = vl) (h : q_tn is (pc + 1) L (.long vl :: st) w acc R) : q_tn ((.lconst q, 1, 0, 0) :: is) pc L st w acc R := by subst hv; exact q_rc rfl (by rw [List.append_nil]; exact h)
theorem qt_ldcI (hv : q_CN.getD j 0 = v) (h : q_tn is (pc + 2) L (.int v :: st) w acc R) : q_tn ((.ldc i, 2, 0, j) :: is) pc L st w acc R := by subst hv; exact q_rc rfl (by rw [List.append_nil]; exact h)
theorem qt_ldcS (h : q_tn is (pc + 2) L (.retAddr j :: st) w acc R) : q_tn ((.ldc i, 2, 1, j) :: is) pc L st w acc R := q_rc rfl (by rw [List.append_nil]; exact h)
theorem qt_ldcSW (h : q_tn is (pc + 3) L (.retAddr j :: st) w acc R) : q_tn ((.ldc_w i, 3, 1, j) :: is) pc L st w acc R := q_rc rfl (by rw [List.append_nil]; exact h)
theorem qt_ldcw (hv : q_CN.getD j 0 = v) (h : q_tn is (pc + 3) L (.int v :: st) w acc R) : q_tn ((.ldc_w i, 3, 0, j) :: is) pc L st w acc R := by subst hv; exact q_rc rfl (by rw [List.append_nil]; exact h)
theorem qt_ldc2 (hv : q_CL.getD j 0 = vl) (h : q_tn is (pc + 3) L (.long vl :: st) w acc R) : q_tn ((.ldc2_w i, 3, 0, j) :: is) pc L st w acc R := by subst hv; exact q_rc rfl (by rw [List.append_nil]; exact h)
theorem qt_ld {o9 : Option Value} {z : Value} {kk : Option Value → List Prop} {ri : q_RI} {len : Nat} (hs : q_stp 116 ri (pc, L, st, q_mm w) = q_ld i len kk (pc, L, st, q_mm w)) (hx : L.getD i none = o9) (ho : o9 = some z) (hk : kk (some z) = []) (h : q_tn is (pc + len) L (z :: st) w acc R) : q_tn (ri :: is) pc L st w acc R := by
  subst ho
  refine q_rc (cf1 := (pc + len, L, z :: st, q_mm w)) (ps1 := []) ?_ (by rw [List.append_nil]; exact h)
  rw [hs]
  unfold q_ld q_v
  dsimp only
  rw [hx, hk]
  rfl
theorem qt_iload (hx : L.getD i none = some (.int x)) (h : q_tn is (pc + 2) L (.int x :: st) w acc R) : q_tn ((.iload i, 2, 0, 0) :: is) pc L st w acc R := qt_ld rfl hx rfl rfl h
theorem qt_iload_n {i : Fin 4} (hx : L.getD i none = some (.int x)) (h : q_tn is (pc + 1) L (.int x :: st) w acc R) : q_tn ((.iload_n i, 1, 0, 0) :: is) pc L st w acc R := qt_ld rfl hx rfl rfl h
theorem qt_lload (hx : L.getD i none = some (.long xl)) (h : q_tn is (pc + 2) L (.long xl :: st) w acc R) : q_tn ((.lload i, 2, 0, 0) :: is) pc L st w acc R := qt_ld rfl hx rfl rfl h
theorem qt_lload_n {i : Fin 4} (hx : L.getD i none = some (.long xl)) (h : q_tn is (pc + 1) L (.long xl :: st) w acc R) : q_tn ((.lload_n i, 1, 0, 0) :: is) pc L st w acc R := qt_ld rfl hx rfl rfl h
theorem qt_aload (hx : L.getD i none = some (.ref r)) (h : q_tn is (pc + 2) L (.ref r :: st) w acc R) : q_tn ((.aload i, 2, 0, 0) :: is) pc L st w acc R := qt_ld rfl hx rfl rfl h
theorem qt_aload_n {i : Fin 4} (hx : L.getD i none = some (.ref r)) (h : q_tn is (pc + 1) L (.ref r :: st) w acc R) : q_tn ((.aload_n i, 1, 0, 0) :: is) pc L st w acc R := qt_ld rfl hx rfl rfl h
theorem qt_sload (hx : L.getD i none = some (.retAddr r)) (h : q_tn is (pc + 2) L (.retAddr r :: st) w acc R) : q_tn ((.aload i, 2, 0, 0) :: is) pc L st w acc R := qt_ld rfl hx rfl rfl h
theorem qt_sload_n {i : Fin 4} (hx : L.getD i none = some (.retAddr r)) (h : q_tn is (pc + 1) L (.retAddr r :: st) w acc R) : q_tn ((.aload_n i, 1, 0, 0) :: is) pc L st w acc R := qt_ld rfl hx rfl rfl h
theorem qt_istore (hL : q_set L i (.int x) = L') (h : q_tn is (pc + 2) L' st w acc R) : q_tn ((.istore i, 2, 0, 0) :: is) pc L (.int x :: st) w acc R := by subst hL; exact q_rc rfl (by rw [List.append_nil]; exact h)
theorem qt_istore_n {i : Fin 4} (hL : q_set L i (.int x) = L') (h : q_tn is (pc + 1) L' st w acc R) : q_tn ((.istore_n i, 1, 0, 0) :: is) pc L (.int x :: st) w acc R := by subst hL; exact q_rc rfl (by rw [List.append_nil]; exact h)
theorem qt_lstore (hL : q_setL L i (.long xl) = L') (h : q_tn is (pc + 2) L' st w acc R) : q_tn ((.lstore i, 2, 0, 0) :: is) pc L (.long xl :: st) w acc R := by subst hL; exact q_rc rfl (by rw [List.append_nil]; exact h)
theorem qt_lstore_n {i : Fin 4} (hL : q_setL L i (.long xl) = L') (h : q_tn is (pc + 1) L' st w acc R) : q_tn ((.lstore_n i, 1, 0, 0) :: is) pc L (.long xl :: st) w acc R := by subst hL; exact q_rc rfl (by rw [List.append_nil]; exact h)
theorem qt_astore (hL : q_set L i (.ref r) = L') (h : q_tn is (pc + 2) L' st w acc R) : q_tn ((.astore i, 2, 0, 0) :: is) pc L (.ref r :: st) w acc R := by subst hL; exact q_rc rfl (by rw [List.append_nil]; exact h)
theorem qt_astore_n {i : Fin 4} (hL : q_set L i (.ref r) = L') (h : q_tn is (pc + 1) L' st w acc R) : q_tn ((.astore_n i, 1, 0, 0) :: is) pc L (.ref r :: st) w acc R := by subst hL; exact q_rc rfl (by rw [List.append_nil]; exact h)
theorem qt_iinc (hx : L.getD i none = some (.int x)) (hv : Int32.ofInt k = v) (hL : q_set L i (.int (x + v)) = L') (h : q_tn is (pc + 3) L' st w acc R) : q_tn ((.iinc i k, 3, 0, 0) :: is) pc L st w acc R := by
  subst hL; subst hv
  refine q_rc (cf1 := (pc + 3, q_set L i (.int (x + Int32.ofInt k)), st, q_mm w)) (ps1 := []) ?_ (by rw [List.append_nil]; exact h)
  show q_inc i k (pc, L, st, q_mm w) = _
  unfold q_inc
  dsimp only
  rw [hx]
theorem qt_nop (hL : L.set i none = L') (h : q_tn is pc L' st w acc R) : q_tn ((.nop, 0, i, 0) :: is) pc L st w acc R := by subst hL; exact q_rc rfl (by rw [List.append_nil]; exact h)
theorem qt_goto (h : q_tn is i L st w acc R) : q_tn ((.goto k, 3, i, 0) :: is) pc L st w acc R := q_rc rfl (by rw [List.append_nil]; exact h)
theorem qt_pop (h : q_tn is (pc + 1) L st w acc R) : q_tn ((.pop, 1, 0, 0) :: is) pc L (.int x :: st) w acc R := q_rc rfl (by rw [List.append_nil]; exact h)
theorem qt_dupI (h : q_tn is (pc + 1) L (.int x :: .int x :: st) w acc R) : q_tn ((.dup, 1, 0, 0) :: is) pc L (.int x :: st) w acc R := q_rc rfl (by rw [List.append_nil]; exact h)
theorem qt_dupR (h : q_tn is (pc + 1) L (.ref r :: .ref r :: st) w acc R) : q_tn ((.dup, 1, 0, 0) :: is) pc L (.ref r :: st) w acc R := q_rc rfl (by rw [List.append_nil]; exact h)
theorem qt_dup2 (h : q_tn is (pc + 1) L (.int x :: .ref r :: .int x :: .ref r :: st) w acc R) : q_tn ((.dup2, 1, 0, 0) :: is) pc L (.int x :: .ref r :: st) w acc R := q_rc rfl (by rw [List.append_nil]; exact h)
theorem qt_lcmp (h : q_tn is (pc + 1) L (.int (lg_cmp xl yl) :: st) w acc R) : q_tn ((.lcmp, 1, 0, 0) :: is) pc L (.long yl :: .long xl :: st) w acc R := q_rc rfl (by rw [List.append_nil]; exact h)
theorem qt_lshl (h : q_tn is (pc + 1) L (.long (xl <<< (y.toInt64 &&& 63)) :: st) w acc R) : q_tn ((.lshl, 1, 0, 0) :: is) pc L (.int y :: .long xl :: st) w acc R := q_rc rfl (by rw [List.append_nil]; exact h)
theorem qt_lushr (h : q_tn is (pc + 1) L (.long (xl.toUInt64 >>> (y.toInt64.toUInt64 &&& Int64.toUInt64 63)).toInt64 :: st) w acc R) : q_tn ((.lushr, 1, 0, 0) :: is) pc L (.int y :: .long xl :: st) w acc R := q_rc rfl (by rw [List.append_nil]; exact h)
theorem qt_i2c (h : q_tn is (pc + 1) L (.int (x.toUInt32 % 65536).toInt32 :: st) w acc R) : q_tn ((.i2c, 1, 0, 0) :: is) pc L (.int x :: st) w acc R := q_rc rfl (by rw [List.append_nil]; exact h)
theorem qt_gstat (h : q_tn is (pc + 3) L (.int 1 :: st) w acc R) : q_tn ((.getstatic i, 3, 0, 0) :: is) pc L st w acc R := q_rc rfl (by rw [List.append_nil]; exact h)
theorem qt_gform (h : q_tn is (pc + 3) L (.retAddr 2000 :: st) w acc R) : q_tn ((.getstatic i, 3, 1, 0) :: is) pc L st w acc R := q_rc rfl (by rw [List.append_nil]; exact h)
theorem qt_tbytes (h : q_tn is (pc + 3) L (.retAddr (1000 + j) :: st) w (acc ++ [j < 51]) R) : q_tn ((.getfield i, 3, 50, 0) :: is) pc L (.retAddr j :: st) w acc R := q_rc rfl h
theorem qt_tcoder (h : q_tn is (pc + 3) L (.int 0 :: st) w (acc ++ [j < 51]) R) : q_tn ((.getfield i, 3, 50, 1) :: is) pc L (.retAddr j :: st) w acc R := q_rc rfl h
theorem qt_tlen (h : q_tn is (pc + 1) L (.int (Int32.ofNat (q_SB.getD (j - 1000) []).length) :: st) w (acc ++ [1000 ≤ j ∧ j < 1051]) R) : q_tn ((.arraylength, 1, 0, 0) :: is) pc L (.retAddr j :: st) w acc R := q_rc rfl h
theorem qt_tald (h : q_tn is (pc + 1) L (.int ((q_SB.getD (j - 1000) []).getD x.toNatClampNeg 0) :: st) w (acc ++ [1000 ≤ j ∧ j < 1051, vp_in x (q_SB.getD (j - 1000) []).length]) R) : q_tn ((.baload, 1, 13, 0) :: is) pc L (.int x :: .retAddr j :: st) w acc R := q_rc rfl h
theorem qt_ineg (h : q_tn is (pc + 1) L (.int (-x) :: st) w acc R) : q_tn ((.ineg, 1, 0, 0) :: is) pc L (.int x :: st) w acc R := q_rc rfl (by rw [List.append_nil]; exact h)
theorem qt_i2b (h : q_tn is (pc + 1) L (.int (x.toInt8.toInt32) :: st) w acc R) : q_tn ((.i2b, 1, 0, 0) :: is) pc L (.int x :: st) w acc R := q_rc rfl (by rw [List.append_nil]; exact h)
theorem qt_i2l (h : q_tn is (pc + 1) L (.long x.toInt64 :: st) w acc R) : q_tn ((.i2l, 1, 0, 0) :: is) pc L (.int x :: st) w acc R := q_rc rfl (by rw [List.append_nil]; exact h)
theorem qt_l2i (h : q_tn is (pc + 1) L (.int xl.toInt32 :: st) w acc R) : q_tn ((.l2i, 1, 0, 0) :: is) pc L (.long xl :: st) w acc R := q_rc rfl (by rw [List.append_nil]; exact h)
theorem qt_len (hv : Int32.ofNat (q_sh id).2 = v) (h : q_tn is (pc + 1) L (.int v :: st) w (acc ++ [(0 < id ∧ id ≤ 116) ∧ 13 ≤ (q_sh id).1 ∧ (q_sh id).1 < 18]) R) : q_tn ((.arraylength, 1, 0, 0) :: is) pc L (.ref id :: st) w acc R := by subst hv; exact q_rc rfl h
theorem q_stpg {cf : q_Cf} {i c1 c2 : Nat} (h : ¬ c1 = 50) : q_stp 116 (.getfield i, 3, c1, c2) cf = q_get 116 c1 c2 cf := by
  show (if c1 = 50 then _ else _) = _
  rw [if_neg h]
theorem qt_getI (h50 : Nat.beq c1 50 = false) (hq : q_ir c1 c2 = false) (h : q_tn is (pc + 3) L (.int (w.1 id c2) :: st) w (acc ++ [q_id 116 c1 id]) R) : q_tn ((.getfield i, 3, c1, c2) :: is) pc L (.ref id :: st) w acc R := by
  refine q_rc (cf1 := (pc + 3, L, .int (w.1 id c2) :: st, q_mm w)) (ps1 := [q_id 116 c1 id]) ?_ h
  rw [q_stpg (fun h9 => by rw [h9] at h50; cases h50)]
  unfold q_get
  dsimp only
  rw [hq]
  rfl
theorem qt_getR (h50 : Nat.beq c1 50 = false) (hq : q_ir c1 c2 = true) (hr : q_R w.2.2 c1 id c2 = r) (h : q_tn is (pc + 3) L (.ref r :: st) w (acc ++ [q_id 116 c1 id]) R) : q_tn ((.getfield i, 3, c1, c2) :: is) pc L (.ref id :: st) w acc R := by
  subst hr
  refine q_rc (cf1 := (pc + 3, L, .ref (q_R w.2.2 c1 id c2) :: st, q_mm w)) (ps1 := [q_id 116 c1 id]) ?_ h
  rw [q_stpg (fun h9 => by rw [h9] at h50; cases h50)]
  unfold q_get
  dsimp only
  rw [hq]
  rfl
theorem qt_putI (hq : q_ir c1 c2 = false) (h : q_tn is (pc + 3) L st (q_wI w id c2 v) (acc ++ [q_id 116 c1 id]) R) : q_tn ((.putfield i, 3, c1, c2) :: is) pc L (.int v :: .ref id :: st) w acc R := by
  refine q_rc (cf1 := (pc + 3, L, st, q_mm (q_wI w id c2 v))) (ps1 := [q_id 116 c1 id]) ?_ h
  show q_put 116 c1 c2 (pc, L, .int v :: .ref id :: st, q_mm w) = _
  unfold q_put
  dsimp only
  rw [hq]
  rfl
theorem qt_putR {cu : q_Cu} (hq : q_ir 11 c2 = true) (hr : q_upR (q_R w.2.2) 11 1 c2 r = q_R cu) (h : q_tn is (pc + 3) L st (w.1, w.2.1, cu) (acc ++ [q_id 116 11 1]) R) : q_tn ((.putfield i, 3, 11, c2) :: is) pc L (.ref r :: .ref 1 :: st) w acc R := by
  refine q_rc (cf1 := (pc + 3, L, st, q_mm (w.1, w.2.1, cu))) (ps1 := [q_id 116 11 1]) ?_ h
  show q_put 116 11 c2 (pc, L, .ref r :: .ref 1 :: st, q_mm w) = _
  unfold q_put
  dsimp only
  rw [hq]
  show ((pc + 3, L, st, (w.1, w.2.1, q_upR (q_R w.2.2) 11 1 c2 r)), [q_id 116 11 1]) = ((pc + 3, L, st, (w.1, w.2.1, q_R cu)), [q_id 116 11 1])
  rw [hr]
theorem qt_iald (h : q_tn is (pc + 1) L (.int (w.1 id x.toNatClampNeg) :: st) w (acc ++ [q_id 116 14 id, vp_in x (q_sh id).2]) R) : q_tn ((.iaload, 1, 0, 0) :: is) pc L (.int x :: .ref id :: st) w acc R := q_rc rfl h
theorem qt_bald (h : q_tn is (pc + 1) L (.int (w.1 id x.toNatClampNeg) :: st) w (acc ++ [q_id 116 c1 id, vp_in x (q_sh id).2]) R) : q_tn ((.baload, 1, c1, 0) :: is) pc L (.int x :: .ref id :: st) w acc R := q_rc rfl h
theorem qt_iast (h : q_tn is (pc + 1) L st (q_wI w id x.toNatClampNeg v) (acc ++ [q_id 116 14 id, vp_in x (q_sh id).2]) R) : q_tn ((.iastore, 1, 0, 0) :: is) pc L (.int v :: .int x :: .ref id :: st) w acc R := q_rc rfl h
theorem qt_bast (h : q_tn is (pc + 1) L st (q_wI w id x.toNatClampNeg (vp_nar (if c1 = 13 then .byte else .boolean) v)) (acc ++ [q_id 116 c1 id, vp_in x (q_sh id).2]) R) : q_tn ((.bastore, 1, c1, 0) :: is) pc L (.int v :: .int x :: .ref id :: st) w acc R := q_rc rfl h
theorem qt_jald (h : q_tn is (pc + 1) L (.long (w.2.1 id x.toNatClampNeg) :: st) w (acc ++ [q_id 116 15 id, vp_in x (q_sh id).2]) R) : q_tn ((.laload, 1, 0, 0) :: is) pc L (.int x :: .ref id :: st) w acc R := q_rc rfl h
theorem qt_jast (h : q_tn is (pc + 1) L st (q_wJ w id x.toNatClampNeg vl) (acc ++ [q_id 116 15 id, vp_in x (q_sh id).2]) R) : q_tn ((.lastore, 1, 0, 0) :: is) pc L (.long vl :: .int x :: .ref id :: st) w acc R := q_rc rfl h
theorem qt_rald (h : q_tn is (pc + 1) L (.ref (id + 1 + 2 * x.toNatClampNeg) :: st) w (acc ++ [q_id 116 17 id, vp_in x (q_sh id).2]) R) : q_tn ((.aaload, 1, 0, 0) :: is) pc L (.int x :: .ref id :: st) w acc R := q_rc rfl h
theorem qt_iadd (h : q_tn is (pc + 1) L (.int (x + y) :: st) w acc R) : q_tn ((.iadd, 1, 0, 0) :: is) pc L (.int y :: .int x :: st) w acc R := q_rc rfl (by rw [List.append_nil]; exact h)
theorem qt_isub (h : q_tn is (pc + 1) L (.int (x - y) :: st) w acc R) : q_tn ((.isub, 1, 0, 0) :: is) pc L (.int y :: .int x :: st) w acc R := q_rc rfl (by rw [List.append_nil]; exact h)
theorem qt_imul (h : q_tn is (pc + 1) L (.int (x * y) :: st) w acc R) : q_tn ((.imul, 1, 0, 0) :: is) pc L (.int y :: .int x :: st) w acc R := q_rc rfl (by rw [List.append_nil]; exact h)
theorem qt_iand (h : q_tn is (pc + 1) L (.int (x &&& y) :: st) w acc R) : q_tn ((.iand, 1, 0, 0) :: is) pc L (.int y :: .int x :: st) w acc R := q_rc rfl (by rw [List.append_nil]; exact h)
theorem qt_ior (h : q_tn is (pc + 1) L (.int (x ||| y) :: st) w acc R) : q_tn ((.ior, 1, 0, 0) :: is) pc L (.int y :: .int x :: st) w acc R := q_rc rfl (by rw [List.append_nil]; exact h)
theorem qt_ixor (h : q_tn is (pc + 1) L (.int (x ^^^ y) :: st) w acc R) : q_tn ((.ixor, 1, 0, 0) :: is) pc L (.int y :: .int x :: st) w acc R := q_rc rfl (by rw [List.append_nil]; exact h)
theorem qt_ishl (h : q_tn is (pc + 1) L (.int (x <<< (y &&& 31)) :: st) w acc R) : q_tn ((.ishl, 1, 0, 0) :: is) pc L (.int y :: .int x :: st) w acc R := q_rc rfl (by rw [List.append_nil]; exact h)
theorem qt_ishr (h : q_tn is (pc + 1) L (.int (x >>> (y &&& 31)) :: st) w acc R) : q_tn ((.ishr, 1, 0, 0) :: is) pc L (.int y :: .int x :: st) w acc R := q_rc rfl (by rw [List.append_nil]; exact h)
theorem qt_iushr (h : q_tn is (pc + 1) L (.int ((x.toUInt32 >>> (y.toUInt32 &&& Int32.toUInt32 31)).toInt32) :: st) w acc R) : q_tn ((.iushr, 1, 0, 0) :: is) pc L (.int y :: .int x :: st) w acc R := q_rc rfl (by rw [List.append_nil]; exact h)
theorem qt_idiv (h : q_tn is (pc + 1) L (.int (x / y) :: st) w (acc ++ [¬ y = 0]) R) : q_tn ((.idiv, 1, 0, 0) :: is) pc L (.int y :: .int x :: st) w acc R := q_rc rfl h
theorem qt_irem (h : q_tn is (pc + 1) L (.int (x - x / y * y) :: st) w (acc ++ [¬ y = 0]) R) : q_tn ((.irem, 1, 0, 0) :: is) pc L (.int y :: .int x :: st) w acc R := q_rc rfl h
theorem qt_ladd (h : q_tn is (pc + 1) L (.long (xl + yl) :: st) w acc R) : q_tn ((.ladd, 1, 0, 0) :: is) pc L (.long yl :: .long xl :: st) w acc R := q_rc rfl (by rw [List.append_nil]; exact h)
theorem qt_lsub (h : q_tn is (pc + 1) L (.long (xl - yl) :: st) w acc R) : q_tn ((.lsub, 1, 0, 0) :: is) pc L (.long yl :: .long xl :: st) w acc R := q_rc rfl (by rw [List.append_nil]; exact h)
theorem qt_lmul (h : q_tn is (pc + 1) L (.long (xl * yl) :: st) w acc R) : q_tn ((.lmul, 1, 0, 0) :: is) pc L (.long yl :: .long xl :: st) w acc R := q_rc rfl (by rw [List.append_nil]; exact h)
theorem qt_land (h : q_tn is (pc + 1) L (.long (xl &&& yl) :: st) w acc R) : q_tn ((.land, 1, 0, 0) :: is) pc L (.long yl :: .long xl :: st) w acc R := q_rc rfl (by rw [List.append_nil]; exact h)
theorem qt_lor (h : q_tn is (pc + 1) L (.long (xl ||| yl) :: st) w acc R) : q_tn ((.lor, 1, 0, 0) :: is) pc L (.long yl :: .long xl :: st) w acc R := q_rc rfl (by rw [List.append_nil]; exact h)
theorem qt_lxor (h : q_tn is (pc + 1) L (.long (xl ^^^ yl) :: st) w acc R) : q_tn ((.lxor, 1, 0, 0) :: is) pc L (.long yl :: .long xl :: st) w acc R := q_rc rfl (by rw [List.append_nil]; exact h)
theorem qt_ldiv (h : q_tn is (pc + 1) L (.long (xl / yl) :: st) w (acc ++ [¬ yl = 0]) R) : q_tn ((.ldiv, 1, 0, 0) :: is) pc L (.long yl :: .long xl :: st) w acc R := q_rc rfl h
theorem qt_lrem (h : q_tn is (pc + 1) L (.long (xl - xl / yl * yl) :: st) w (acc ++ [¬ yl = 0]) R) : q_tn ((.lrem, 1, 0, 0) :: is) pc L (.long yl :: .long xl :: st) w acc R := q_rc rfl h
end TStep
theorem s_blk {d a : Nat} {M : q_Mt} {pc : Nat} {L : List (Option Value)} {st : List Value} {w : q_Sm} {Q : s_Po} {X : s_Xo} (is : List q_RI) (pc' : Nat) (L' : List (Option Value)) (st' : List Value) (w' : q_Sm) (ps : List Prop) (hr : q_chk M.1 M.2.2.2.1 M.2.2.1 pc is = true) (he : q_tn is pc L st w [] ((pc', L', st', q_mm w'), ps)) (hP : q_all ps) (k : s_Ex d a M pc' L' st' w' Q X) : s_Ex d a M pc L st w Q X := by
  unfold q_tn q_rn at he
  rw [List.nil_append] at he
  exact q_Ex_blk is (pc', L', st', q_mm w') ps hr he hP k
theorem s_ret {d a : Nat} {M : q_Mt} {pc : Nat} {L : List (Option Value)} {w : q_Sm} {Q : s_Po} {X : s_Xo} (r : Option Value) (hd : decode M.2.2.1 pc = .ok (q_rins r, 1)) (hn : q_nar M.2.2.2.2 r) (hQ : Q r w) : s_Ex d a M pc L r.toList w Q X := q_Ex_ret r hd hn ⟨rfl, w, rfl, hQ⟩
theorem s_retI {d a : Nat} {M : q_Mt} {pc : Nat} {L : List (Option Value)} {w : q_Sm} {Q : s_Po} {X : s_Xo} {v : Int32} (ty : FieldType) (hd : decode M.2.2.1 pc = .ok (.ireturn, 1)) (h1 : M.2.2.2.2 = some ty) (h2 : narrow ty (.int v) = .int v) (hQ : Q (some (.int v)) w) : s_Ex d a M pc L [.int v] w Q X := s_ret (some (.int v)) hd ⟨ty, h1, h2⟩ hQ
theorem s_retJ {d a : Nat} {M : q_Mt} {pc : Nat} {L : List (Option Value)} {w : q_Sm} {Q : s_Po} {X : s_Xo} {v : Int64} (hd : decode M.2.2.1 pc = .ok (.lreturn, 1)) (h1 : M.2.2.2.2 = some .long) (hQ : Q (some (.long v)) w) : s_Ex d a M pc L [.long v] w Q X := s_ret (some (.long v)) hd h1 hQ
theorem s_retV {d a : Nat} {M : q_Mt} {pc : Nat} {L : List (Option Value)} {w : q_Sm} {Q : s_Po} {X : s_Xo} (hd : decode M.2.2.1 pc = .ok (.return_, 1)) (h1 : M.2.2.2.2 = none) (hQ : Q none w) : s_Ex d a M pc L [] w Q X := s_ret none hd h1 hQ
theorem q_id_of {n x id : Nat} (h : (Nat.ble 1 id && Nat.ble id n && Nat.beq (q_sh id).1 x) = true) : q_id n x id := by
  simp only [Bool.and_eq_true, Nat.ble_eq] at h
  exact ⟨⟨h.1.1, h.1.2⟩, Nat.eq_of_beq_eq_true h.2⟩
theorem q_vin {i : Int32} {n : Nat} (h : (!(decide (i < 0)) && Nat.blt i.toNatClampNeg n) = true) : vp_in i n := by
  simp only [Bool.and_eq_true, Bool.not_eq_true', decide_eq_false_iff_not, Nat.blt_eq] at h
  exact fun h9 => h9.elim h.1 (fun h8 => by omega)
theorem s_icmp {d a : Nat} {M : q_Mt} {pc : Nat} {L : List (Option Value)} {st : List Value} {x y : Int32} {w : q_Sm} {Q : s_Po} {X : s_Xo} {cd : ClassFile.Cond} {off : Int} (tgt : Nat) (hd : decode M.2.2.1 pc = .ok (.if_icmp cd off, 3)) (ht : (pc : Int) + off = (tgt : Int))
    (k1 : q_cnd cd x y → s_Ex d a M tgt L st w Q X) (k2 : ¬ q_cnd cd x y → s_Ex d a M (pc + 3) L st w Q X) : s_Ex d a M pc L (.int y :: .int x :: st) w Q X := q_Ex_icmp tgt hd ht k1 k2
theorem s_if {d a : Nat} {M : q_Mt} {pc : Nat} {L : List (Option Value)} {st : List Value} {x : Int32} {w : q_Sm} {Q : s_Po} {X : s_Xo} {cd : ClassFile.Cond} {off : Int} (tgt : Nat) (hd : decode M.2.2.1 pc = .ok (.ifCond cd off, 3)) (ht : (pc : Int) + off = (tgt : Int))
    (k1 : q_cnd cd x 0 → s_Ex d a M tgt L st w Q X) (k2 : ¬ q_cnd cd x 0 → s_Ex d a M (pc + 3) L st w Q X) : s_Ex d a M pc L (.int x :: st) w Q X := q_Ex_if tgt hd ht k1 k2
section SCall
variable {d a a' k idx x id pc : Nat} {M M' : q_Mt} {L : List (Option Value)} {st As : List Value} {w : q_Sm} {Q Q1 : s_Po} {X X1 : s_Xo}
theorem s_mono (h : s_Ev d a M w As Q1 X1) (hQ : ∀ r u, Q1 r u → Q r u) (hX : ∀ E u, X1 E u → X E u) : s_Ev d a M w As Q X :=
  q_Ev_mono h (fun r n' w' ⟨h1, u, h2, h3⟩ => ⟨h1, u, h2, hQ r u h3⟩) (fun E n' w' ⟨h1, u, h2, h3⟩ => ⟨h1, u, h2, hX E u h3⟩)
theorem s_callV (hm : q_mokV M' x k) (hl : Cond.methodLink (q_own M.1) idx M'.2.1 ∈ q_TB) (hdec : decode M.2.2.1 pc = .ok (.invokevirtual idx, 3)) (hid : q_id 116 x id) (hlen : As.length = k) (hst : (st.map fun v => v.category).sum ≤ 8)
    (E : s_Ev d a' M' w (.ref id :: As) (fun r u => s_Ex (d + 1) a M (pc + 3) L (r.toList ++ st) u Q X) X) : s_Ex (d + 1) (a + a') M pc L (As.reverse ++ .ref id :: st) w Q X := by
  refine q_Ex_callV (b' := 6 * a') hm hl hdec E hid hlen hst (Nat.le_refl _) (by omega) (by omega) (fun h => by cases h) ?_ (fun E n' w' h => h)
  rintro r n' w' ⟨rfl, u, rfl, h⟩
  have e1 : a + a' - a' = a := by omega
  have e2 : 6 * (a + a') - 6 * a' = 6 * a := by omega
  rw [e1, e2]
  exact h
theorem s_callT (hm : q_mokT M' k) (hl : Cond.methodLink (q_own M.1) idx M'.2.1 ∈ q_TB) (hdec : decode M.2.2.1 pc = .ok (.invokevirtual idx, 3)) (hid : id < 51) (hlen : As.length = k) (hst : (st.map fun v => v.category).sum ≤ 8)
    (E : s_Ev d a' M' w (.retAddr id :: As) (fun r u => s_Ex (d + 1) a M (pc + 3) L (r.toList ++ st) u Q X) X) : s_Ex (d + 1) (a + a') M pc L (As.reverse ++ .retAddr id :: st) w Q X := by
  refine q_Ex_callT (b' := 6 * a') hm (by decide) hl hdec E hid hlen hst (Nat.le_refl _) (by omega) (by omega) (fun h => by cases h) ?_ (fun E n' w' h => h)
  rintro r n' w' ⟨rfl, u, rfl, h⟩
  have e1 : a + a' - a' = a := by omega
  have e2 : 6 * (a + a') - 6 * a' = 6 * a := by omega
  rw [e1, e2]
  exact h
theorem s_callS (hm : q_mokS M' k) (hl : Cond.methodLink (q_own M.1) idx M'.2.1 ∈ q_TB) (hdec : decode M.2.2.1 pc = .ok (.invokestatic idx, 3)) (hlen : As.length = k) (hst : (st.map fun v => v.category).sum ≤ 8)
    (E : s_Ev d a' M' w As (fun r u => s_Ex (d + 1) a M (pc + 3) L (r.toList ++ st) u Q X) X) : s_Ex (d + 1) (a + a') M pc L (As.reverse ++ st) w Q X := by
  refine q_Ex_callS (b' := 6 * a') hm (by decide) hl hdec E hlen hst (Nat.le_refl _) (by omega) (by omega) (fun h => by cases h) ?_ (fun E n' w' h => h)
  rintro r n' w' ⟨rfl, u, rfl, h⟩
  have e1 : a + a' - a' = a := by omega
  have e2 : 6 * (a + a') - 6 * a' = 6 * a := by omega
  rw [e1, e2]
  exact h
theorem s_I_of {Q9 : Int32 → q_Sm → Prop} {K : s_Po} (h : ∀ v u, Q9 v u → K (some (.int v)) u) : ∀ r u, s_I Q9 r u → K r u := by
  rintro r u ⟨v, rfl, h9⟩
  exact h v u h9
theorem s_J_of {Q9 : Int64 → q_Sm → Prop} {K : s_Po} (h : ∀ v u, Q9 v u → K (some (.long v)) u) : ∀ r u, s_J Q9 r u → K r u := by
  rintro r u ⟨v, rfl, h9⟩
  exact h v u h9
theorem s_V_of {Q9 : q_Sm → Prop} {K : s_Po} (h : ∀ u, Q9 u → K none u) : ∀ r u, s_V Q9 r u → K r u := by
  rintro r u ⟨rfl, h9⟩
  exact h u h9
theorem s_less {pc : Nat} (h : s_Ex d a M pc L st w Q X) (ha : a ≤ a') : s_Ex d a' M pc L st w Q X := by
  intro G p l e R s m args below meth c Z C h1 h2 h3 h4 H locs cells slots ls g1 g0 g2 g3 g4 g5
  exact h G p l e R s m args below meth c Z C h1 h2 h3 h4 H locs cells slots ls g1 g0 g2 g3 (by omega) (by omega)
theorem s_Ex_mono {pc : Nat} (h : s_Ex d a M pc L st w Q1 X1) (hQ : ∀ r u, Q1 r u → Q r u) (hX : ∀ E u, X1 E u → X E u) : s_Ex d a M pc L st w Q X :=
  q_Ex_mono h (fun r n' w' ⟨h1, u, h2, h3⟩ => ⟨h1, u, h2, hQ r u h3⟩) (fun E n' w' ⟨h1, u, h2, h3⟩ => ⟨h1, u, h2, hX E u h3⟩)
end SCall
