def g_wI (w : q_Mem) (id k : Nat) (v : Int32) : q_Mem := (q_up w.1 id k v, w.2)
def g_wJ (w : q_Mem) (id k : Nat) (v : Int64) : q_Mem := (w.1, q_up w.2.1 id k v, w.2.2)
theorem g_stpg {n : Nat} {cf : q_Cf} {i c1 c2 : Nat} (h : ¬ c1 = 50) : q_stp n (.getfield i, 3, c1, c2) cf = q_get n c1 c2 cf := by
  show (if c1 = 50 then _ else _) = _
  rw [if_neg h]
def g_tn (n : Nat) (is : List q_RI) (pc : Nat) (L : List (Option Value)) (st : List Value) (w : q_Mem) (acc : List Prop) (R : q_Cf × List Prop) : Prop := q_rn n is (pc, L, st, w) acc = R
section GStep
variable {n : Nat} {is : List q_RI} {pc : Nat} {L L' : List (Option Value)} {st : List Value} {w : q_Mem} {acc : List Prop} {R : q_Cf × List Prop} {x y v : Int32} {xl yl vl : Int64} {k : Int} {i j id c1 c2 r : Nat}
theorem gt_z {pc' : Nat} {L9 : List (Option Value)} {st9 : List Value} {w9 : q_Mem} {ps : List Prop} (h1 : pc = pc') (h2 : L = L9) (h3 : st = st9) (h4 : w = w9) (h5 : acc = ps) : g_tn n [] pc L st w acc ((pc', L9, st9, w9), ps) := by
  subst h1 h2 h3 h4 h5
  exact q_rz rfl
theorem gt_iconst (hv : Int32.ofInt k = v) (h : g_tn n is (pc + 1) L (.int v :: st) w acc R) : g_tn n ((.iconst k, 1, 0, 0) :: is) pc L st w acc R := by subst hv; exact q_rc rfl (by rw [List.append_nil]; exact h)
theorem gt_bipush (hv : (Int8.ofInt k).toInt32 = v) (h : g_tn n is (pc + 2) L (.int v :: st) w acc R) : g_tn n ((.bipush k, 2, 0, 0) :: is) pc L st w acc R := by subst hv; exact q_rc rfl (by rw [List.append_nil]; exact h)
theorem gt_sipush (hv : (Int16.ofInt k).toInt32 = v) (h : g_tn n is (pc + 3) L (.int v :: st) w acc R) : g_tn n ((.sipush k, 3, 0, 0) :: is) pc L st w acc R := by subst hv; exact q_rc rfl (by rw [List.append_nil]; exact h)
theorem gt_lconst {q : Fin 2} (hv : Int64.ofNat q = vl) (h : g_tn n is (pc + 1) L (.long vl :: st) w acc R) : g_tn n ((.lconst q, 1, 0, 0) :: is) pc L st w acc R := by subst hv; exact q_rc rfl (by rw [List.append_nil]; exact h)
theorem gt_ldcI (hv : q_CN.getD j 0 = v) (h : g_tn n is (pc + 2) L (.int v :: st) w acc R) : g_tn n ((.ldc i, 2, 0, j) :: is) pc L st w acc R := by subst hv; exact q_rc rfl (by rw [List.append_nil]; exact h)
theorem gt_ldcS (h : g_tn n is (pc + 2) L (.retAddr j :: st) w acc R) : g_tn n ((.ldc i, 2, 1, j) :: is) pc L st w acc R := q_rc rfl (by rw [List.append_nil]; exact h)
theorem gt_ldcSW (h : g_tn n is (pc + 3) L (.retAddr j :: st) w acc R) : g_tn n ((.ldc_w i, 3, 1, j) :: is) pc L st w acc R := q_rc rfl (by rw [List.append_nil]; exact h)
theorem gt_ldcw (hv : q_CN.getD j 0 = v) (h : g_tn n is (pc + 3) L (.int v :: st) w acc R) : g_tn n ((.ldc_w i, 3, 0, j) :: is) pc L st w acc R := by subst hv; exact q_rc rfl (by rw [List.append_nil]; exact h)
theorem gt_ldc2 (hv : q_CL.getD j 0 = vl) (h : g_tn n is (pc + 3) L (.long vl :: st) w acc R) : g_tn n ((.ldc2_w i, 3, 0, j) :: is) pc L st w acc R := by subst hv; exact q_rc rfl (by rw [List.append_nil]; exact h)
theorem gt_ld {o9 : Option Value} {z : Value} {kk : Option Value → List Prop} {ri : q_RI} {len : Nat} (hs : q_stp n ri (pc, L, st, w) = q_ld i len kk (pc, L, st, w)) (hx : L.getD i none = o9) (ho : o9 = some z) (hk : kk (some z) = []) (h : g_tn n is (pc + len) L (z :: st) w acc R) : g_tn n (ri :: is) pc L st w acc R := by
  subst ho
  refine q_rc (cf1 := (pc + len, L, z :: st, w)) (ps1 := []) ?_ (by rw [List.append_nil]; exact h)
  rw [hs]
  unfold q_ld q_v
  dsimp only
  rw [hx, hk]
  rfl
theorem gt_iload (hx : L.getD i none = some (.int x)) (h : g_tn n is (pc + 2) L (.int x :: st) w acc R) : g_tn n ((.iload i, 2, 0, 0) :: is) pc L st w acc R := gt_ld rfl hx rfl rfl h
theorem gt_iload_n {i : Fin 4} (hx : L.getD i none = some (.int x)) (h : g_tn n is (pc + 1) L (.int x :: st) w acc R) : g_tn n ((.iload_n i, 1, 0, 0) :: is) pc L st w acc R := gt_ld rfl hx rfl rfl h
theorem gt_lload (hx : L.getD i none = some (.long xl)) (h : g_tn n is (pc + 2) L (.long xl :: st) w acc R) : g_tn n ((.lload i, 2, 0, 0) :: is) pc L st w acc R := gt_ld rfl hx rfl rfl h
theorem gt_lload_n {i : Fin 4} (hx : L.getD i none = some (.long xl)) (h : g_tn n is (pc + 1) L (.long xl :: st) w acc R) : g_tn n ((.lload_n i, 1, 0, 0) :: is) pc L st w acc R := gt_ld rfl hx rfl rfl h
theorem gt_aload (hx : L.getD i none = some (.ref r)) (h : g_tn n is (pc + 2) L (.ref r :: st) w acc R) : g_tn n ((.aload i, 2, 0, 0) :: is) pc L st w acc R := gt_ld rfl hx rfl rfl h
theorem gt_aload_n {i : Fin 4} (hx : L.getD i none = some (.ref r)) (h : g_tn n is (pc + 1) L (.ref r :: st) w acc R) : g_tn n ((.aload_n i, 1, 0, 0) :: is) pc L st w acc R := gt_ld rfl hx rfl rfl h
theorem gt_sload (hx : L.getD i none = some (.retAddr r)) (h : g_tn n is (pc + 2) L (.retAddr r :: st) w acc R) : g_tn n ((.aload i, 2, 0, 0) :: is) pc L st w acc R := gt_ld rfl hx rfl rfl h
theorem gt_sload_n {i : Fin 4} (hx : L.getD i none = some (.retAddr r)) (h : g_tn n is (pc + 1) L (.retAddr r :: st) w acc R) : g_tn n ((.aload_n i, 1, 0, 0) :: is) pc L st w acc R := gt_ld rfl hx rfl rfl h
theorem gt_istore (hL : q_set L i (.int x) = L') (h : g_tn n is (pc + 2) L' st w acc R) : g_tn n ((.istore i, 2, 0, 0) :: is) pc L (.int x :: st) w acc R := by subst hL; exact q_rc rfl (by rw [List.append_nil]; exact h)
theorem gt_istore_n {i : Fin 4} (hL : q_set L i (.int x) = L') (h : g_tn n is (pc + 1) L' st w acc R) : g_tn n ((.istore_n i, 1, 0, 0) :: is) pc L (.int x :: st) w acc R := by subst hL; exact q_rc rfl (by rw [List.append_nil]; exact h)
theorem gt_lstore (hL : q_setL L i (.long xl) = L') (h : g_tn n is (pc + 2) L' st w acc R) : g_tn n ((.lstore i, 2, 0, 0) :: is) pc L (.long xl :: st) w acc R := by subst hL; exact q_rc rfl (by rw [List.append_nil]; exact h)
theorem gt_lstore_n {i : Fin 4} (hL : q_setL L i (.long xl) = L') (h : g_tn n is (pc + 1) L' st w acc R) : g_tn n ((.lstore_n i, 1, 0, 0) :: is) pc L (.long xl :: st) w acc R := by subst hL; exact q_rc rfl (by rw [List.append_nil]; exact h)
theorem gt_astore (hL : q_set L i (.ref r) = L') (h : g_tn n is (pc + 2) L' st w acc R) : g_tn n ((.astore i, 2, 0, 0) :: is) pc L (.ref r :: st) w acc R := by subst hL; exact q_rc rfl (by rw [List.append_nil]; exact h)
theorem gt_astore_n {i : Fin 4} (hL : q_set L i (.ref r) = L') (h : g_tn n is (pc + 1) L' st w acc R) : g_tn n ((.astore_n i, 1, 0, 0) :: is) pc L (.ref r :: st) w acc R := by subst hL; exact q_rc rfl (by rw [List.append_nil]; exact h)
theorem gt_iinc (hx : L.getD i none = some (.int x)) (hv : Int32.ofInt k = v) (hL : q_set L i (.int (x + v)) = L') (h : g_tn n is (pc + 3) L' st w acc R) : g_tn n ((.iinc i k, 3, 0, 0) :: is) pc L st w acc R := by
  subst hL; subst hv
  refine q_rc (cf1 := (pc + 3, q_set L i (.int (x + Int32.ofInt k)), st, w)) (ps1 := []) ?_ (by rw [List.append_nil]; exact h)
  show q_inc i k (pc, L, st, w) = _
  unfold q_inc
  dsimp only
  rw [hx]
theorem gt_nop (hL : L.set i none = L') (h : g_tn n is pc L' st w acc R) : g_tn n ((.nop, 0, i, 0) :: is) pc L st w acc R := by subst hL; exact q_rc rfl (by rw [List.append_nil]; exact h)
theorem gt_goto (h : g_tn n is i L st w acc R) : g_tn n ((.goto k, 3, i, 0) :: is) pc L st w acc R := q_rc rfl (by rw [List.append_nil]; exact h)
theorem gt_pop (h : g_tn n is (pc + 1) L st w acc R) : g_tn n ((.pop, 1, 0, 0) :: is) pc L (.int x :: st) w acc R := q_rc rfl (by rw [List.append_nil]; exact h)
theorem gt_dupI (h : g_tn n is (pc + 1) L (.int x :: .int x :: st) w acc R) : g_tn n ((.dup, 1, 0, 0) :: is) pc L (.int x :: st) w acc R := q_rc rfl (by rw [List.append_nil]; exact h)
theorem gt_dupR (h : g_tn n is (pc + 1) L (.ref r :: .ref r :: st) w acc R) : g_tn n ((.dup, 1, 0, 0) :: is) pc L (.ref r :: st) w acc R := q_rc rfl (by rw [List.append_nil]; exact h)
theorem gt_dup2 (h : g_tn n is (pc + 1) L (.int x :: .ref r :: .int x :: .ref r :: st) w acc R) : g_tn n ((.dup2, 1, 0, 0) :: is) pc L (.int x :: .ref r :: st) w acc R := q_rc rfl (by rw [List.append_nil]; exact h)
theorem gt_lcmp (h : g_tn n is (pc + 1) L (.int (lg_cmp xl yl) :: st) w acc R) : g_tn n ((.lcmp, 1, 0, 0) :: is) pc L (.long yl :: .long xl :: st) w acc R := q_rc rfl (by rw [List.append_nil]; exact h)
theorem gt_lshl (h : g_tn n is (pc + 1) L (.long (xl <<< (y.toInt64 &&& 63)) :: st) w acc R) : g_tn n ((.lshl, 1, 0, 0) :: is) pc L (.int y :: .long xl :: st) w acc R := q_rc rfl (by rw [List.append_nil]; exact h)
theorem gt_lushr (h : g_tn n is (pc + 1) L (.long (xl.toUInt64 >>> (y.toInt64.toUInt64 &&& Int64.toUInt64 63)).toInt64 :: st) w acc R) : g_tn n ((.lushr, 1, 0, 0) :: is) pc L (.int y :: .long xl :: st) w acc R := q_rc rfl (by rw [List.append_nil]; exact h)
theorem gt_i2c (h : g_tn n is (pc + 1) L (.int (x.toUInt32 % 65536).toInt32 :: st) w acc R) : g_tn n ((.i2c, 1, 0, 0) :: is) pc L (.int x :: st) w acc R := q_rc rfl (by rw [List.append_nil]; exact h)
theorem gt_gstat (h : g_tn n is (pc + 3) L (.int 1 :: st) w acc R) : g_tn n ((.getstatic i, 3, 0, 0) :: is) pc L st w acc R := q_rc rfl (by rw [List.append_nil]; exact h)
theorem gt_gform (h : g_tn n is (pc + 3) L (.retAddr 2000 :: st) w acc R) : g_tn n ((.getstatic i, 3, 1, 0) :: is) pc L st w acc R := q_rc rfl (by rw [List.append_nil]; exact h)
theorem gt_tbytes (h : g_tn n is (pc + 3) L (.retAddr (1000 + j) :: st) w (acc ++ [j < 51]) R) : g_tn n ((.getfield i, 3, 50, 0) :: is) pc L (.retAddr j :: st) w acc R := q_rc rfl h
theorem gt_tcoder (h : g_tn n is (pc + 3) L (.int 0 :: st) w (acc ++ [j < 51]) R) : g_tn n ((.getfield i, 3, 50, 1) :: is) pc L (.retAddr j :: st) w acc R := q_rc rfl h
theorem gt_tlen (h : g_tn n is (pc + 1) L (.int (Int32.ofNat (q_SB.getD (j - 1000) []).length) :: st) w (acc ++ [1000 ≤ j ∧ j < 1051]) R) : g_tn n ((.arraylength, 1, 0, 0) :: is) pc L (.retAddr j :: st) w acc R := q_rc rfl h
theorem gt_tald (h : g_tn n is (pc + 1) L (.int ((q_SB.getD (j - 1000) []).getD x.toNatClampNeg 0) :: st) w (acc ++ [1000 ≤ j ∧ j < 1051, vp_in x (q_SB.getD (j - 1000) []).length]) R) : g_tn n ((.baload, 1, 13, 0) :: is) pc L (.int x :: .retAddr j :: st) w acc R := q_rc rfl h
theorem gt_ineg (h : g_tn n is (pc + 1) L (.int (-x) :: st) w acc R) : g_tn n ((.ineg, 1, 0, 0) :: is) pc L (.int x :: st) w acc R := q_rc rfl (by rw [List.append_nil]; exact h)
theorem gt_i2b (h : g_tn n is (pc + 1) L (.int (x.toInt8.toInt32) :: st) w acc R) : g_tn n ((.i2b, 1, 0, 0) :: is) pc L (.int x :: st) w acc R := q_rc rfl (by rw [List.append_nil]; exact h)
theorem gt_i2l (h : g_tn n is (pc + 1) L (.long x.toInt64 :: st) w acc R) : g_tn n ((.i2l, 1, 0, 0) :: is) pc L (.int x :: st) w acc R := q_rc rfl (by rw [List.append_nil]; exact h)
theorem gt_l2i (h : g_tn n is (pc + 1) L (.int xl.toInt32 :: st) w acc R) : g_tn n ((.l2i, 1, 0, 0) :: is) pc L (.long xl :: st) w acc R := q_rc rfl (by rw [List.append_nil]; exact h)
theorem gt_len (hv : Int32.ofNat (q_sh id).2 = v) (h : g_tn n is (pc + 1) L (.int v :: st) w (acc ++ [(0 < id ∧ id ≤ n) ∧ 13 ≤ (q_sh id).1 ∧ (q_sh id).1 < 18]) R) : g_tn n ((.arraylength, 1, 0, 0) :: is) pc L (.ref id :: st) w acc R := by subst hv; exact q_rc rfl h
theorem gt_getI (h50 : Nat.beq c1 50 = false) (hq : q_ir c1 c2 = false) (h : g_tn n is (pc + 3) L (.int (w.1 id c2) :: st) w (acc ++ [q_id n c1 id]) R) : g_tn n ((.getfield i, 3, c1, c2) :: is) pc L (.ref id :: st) w acc R := by
  refine q_rc (cf1 := (pc + 3, L, .int (w.1 id c2) :: st, w)) (ps1 := [q_id n c1 id]) ?_ h
  rw [g_stpg (fun h9 => by rw [h9] at h50; cases h50)]
  unfold q_get
  dsimp only
  rw [hq]
  rfl
theorem gt_getR (h50 : Nat.beq c1 50 = false) (hq : q_ir c1 c2 = true) (hr : w.2.2 c1 id c2 = r) (h : g_tn n is (pc + 3) L (.ref r :: st) w (acc ++ [q_id n c1 id]) R) : g_tn n ((.getfield i, 3, c1, c2) :: is) pc L (.ref id :: st) w acc R := by
  subst hr
  refine q_rc (cf1 := (pc + 3, L, .ref (w.2.2 c1 id c2) :: st, w)) (ps1 := [q_id n c1 id]) ?_ h
  rw [g_stpg (fun h9 => by rw [h9] at h50; cases h50)]
  unfold q_get
  dsimp only
  rw [hq]
  rfl
theorem gt_putI (hq : q_ir c1 c2 = false) (h : g_tn n is (pc + 3) L st (g_wI w id c2 v) (acc ++ [q_id n c1 id]) R) : g_tn n ((.putfield i, 3, c1, c2) :: is) pc L (.int v :: .ref id :: st) w acc R := by
  refine q_rc (cf1 := (pc + 3, L, st, g_wI w id c2 v)) (ps1 := [q_id n c1 id]) ?_ h
  show q_put n c1 c2 (pc, L, .int v :: .ref id :: st, w) = _
  unfold q_put
  dsimp only
  rw [hq]
  rfl
theorem gt_iald (h : g_tn n is (pc + 1) L (.int (w.1 id x.toNatClampNeg) :: st) w (acc ++ [q_id n 14 id, vp_in x (q_sh id).2]) R) : g_tn n ((.iaload, 1, 0, 0) :: is) pc L (.int x :: .ref id :: st) w acc R := q_rc rfl h
theorem gt_bald (h : g_tn n is (pc + 1) L (.int (w.1 id x.toNatClampNeg) :: st) w (acc ++ [q_id n c1 id, vp_in x (q_sh id).2]) R) : g_tn n ((.baload, 1, c1, 0) :: is) pc L (.int x :: .ref id :: st) w acc R := q_rc rfl h
theorem gt_iast (h : g_tn n is (pc + 1) L st (g_wI w id x.toNatClampNeg v) (acc ++ [q_id n 14 id, vp_in x (q_sh id).2]) R) : g_tn n ((.iastore, 1, 0, 0) :: is) pc L (.int v :: .int x :: .ref id :: st) w acc R := q_rc rfl h
theorem gt_bast (h : g_tn n is (pc + 1) L st (g_wI w id x.toNatClampNeg (vp_nar (if c1 = 13 then .byte else .boolean) v)) (acc ++ [q_id n c1 id, vp_in x (q_sh id).2]) R) : g_tn n ((.bastore, 1, c1, 0) :: is) pc L (.int v :: .int x :: .ref id :: st) w acc R := q_rc rfl h
theorem gt_jald (h : g_tn n is (pc + 1) L (.long (w.2.1 id x.toNatClampNeg) :: st) w (acc ++ [q_id n 15 id, vp_in x (q_sh id).2]) R) : g_tn n ((.laload, 1, 0, 0) :: is) pc L (.int x :: .ref id :: st) w acc R := q_rc rfl h
theorem gt_jast (h : g_tn n is (pc + 1) L st (g_wJ w id x.toNatClampNeg vl) (acc ++ [q_id n 15 id, vp_in x (q_sh id).2]) R) : g_tn n ((.lastore, 1, 0, 0) :: is) pc L (.long vl :: .int x :: .ref id :: st) w acc R := q_rc rfl h
theorem gt_iadd (h : g_tn n is (pc + 1) L (.int (x + y) :: st) w acc R) : g_tn n ((.iadd, 1, 0, 0) :: is) pc L (.int y :: .int x :: st) w acc R := q_rc rfl (by rw [List.append_nil]; exact h)
theorem gt_isub (h : g_tn n is (pc + 1) L (.int (x - y) :: st) w acc R) : g_tn n ((.isub, 1, 0, 0) :: is) pc L (.int y :: .int x :: st) w acc R := q_rc rfl (by rw [List.append_nil]; exact h)
theorem gt_imul (h : g_tn n is (pc + 1) L (.int (x * y) :: st) w acc R) : g_tn n ((.imul, 1, 0, 0) :: is) pc L (.int y :: .int x :: st) w acc R := q_rc rfl (by rw [List.append_nil]; exact h)
theorem gt_iand (h : g_tn n is (pc + 1) L (.int (x &&& y) :: st) w acc R) : g_tn n ((.iand, 1, 0, 0) :: is) pc L (.int y :: .int x :: st) w acc R := q_rc rfl (by rw [List.append_nil]; exact h)
theorem gt_ior (h : g_tn n is (pc + 1) L (.int (x ||| y) :: st) w acc R) : g_tn n ((.ior, 1, 0, 0) :: is) pc L (.int y :: .int x :: st) w acc R := q_rc rfl (by rw [List.append_nil]; exact h)
theorem gt_ixor (h : g_tn n is (pc + 1) L (.int (x ^^^ y) :: st) w acc R) : g_tn n ((.ixor, 1, 0, 0) :: is) pc L (.int y :: .int x :: st) w acc R := q_rc rfl (by rw [List.append_nil]; exact h)
theorem gt_ishl (h : g_tn n is (pc + 1) L (.int (x <<< (y &&& 31)) :: st) w acc R) : g_tn n ((.ishl, 1, 0, 0) :: is) pc L (.int y :: .int x :: st) w acc R := q_rc rfl (by rw [List.append_nil]; exact h)
theorem gt_ishr (h : g_tn n is (pc + 1) L (.int (x >>> (y &&& 31)) :: st) w acc R) : g_tn n ((.ishr, 1, 0, 0) :: is) pc L (.int y :: .int x :: st) w acc R := q_rc rfl (by rw [List.append_nil]; exact h)
theorem gt_iushr (h : g_tn n is (pc + 1) L (.int ((x.toUInt32 >>> (y.toUInt32 &&& Int32.toUInt32 31)).toInt32) :: st) w acc R) : g_tn n ((.iushr, 1, 0, 0) :: is) pc L (.int y :: .int x :: st) w acc R := q_rc rfl (by rw [List.append_nil]; exact h)
theorem gt_idiv (h : g_tn n is (pc + 1) L (.int (x / y) :: st) w (acc ++ [¬ y = 0]) R) : g_tn n ((.idiv, 1, 0, 0) :: is) pc L (.int y :: .int x :: st) w acc R := q_rc rfl h
theorem gt_irem (h : g_tn n is (pc + 1) L (.int (x - x / y * y) :: st) w (acc ++ [¬ y = 0]) R) : g_tn n ((.irem, 1, 0, 0) :: is) pc L (.int y :: .int x :: st) w acc R := q_rc rfl h
theorem gt_ladd (h : g_tn n is (pc + 1) L (.long (xl + yl) :: st) w acc R) : g_tn n ((.ladd, 1, 0, 0) :: is) pc L (.long yl :: .long xl :: st) w acc R := q_rc rfl (by rw [List.append_nil]; exact h)
theorem gt_lsub (h : g_tn n is (pc + 1) L (.long (xl - yl) :: st) w acc R) : g_tn n ((.lsub, 1, 0, 0) :: is) pc L (.long yl :: .long xl :: st) w acc R := q_rc rfl (by rw [List.append_nil]; exact h)
theorem gt_lmul (h : g_tn n is (pc + 1) L (.long (xl * yl) :: st) w acc R) : g_tn n ((.lmul, 1, 0, 0) :: is) pc L (.long yl :: .long xl :: st) w acc R := q_rc rfl (by rw [List.append_nil]; exact h)
theorem gt_land (h : g_tn n is (pc + 1) L (.long (xl &&& yl) :: st) w acc R) : g_tn n ((.land, 1, 0, 0) :: is) pc L (.long yl :: .long xl :: st) w acc R := q_rc rfl (by rw [List.append_nil]; exact h)
theorem gt_lor (h : g_tn n is (pc + 1) L (.long (xl ||| yl) :: st) w acc R) : g_tn n ((.lor, 1, 0, 0) :: is) pc L (.long yl :: .long xl :: st) w acc R := q_rc rfl (by rw [List.append_nil]; exact h)
theorem gt_lxor (h : g_tn n is (pc + 1) L (.long (xl ^^^ yl) :: st) w acc R) : g_tn n ((.lxor, 1, 0, 0) :: is) pc L (.long yl :: .long xl :: st) w acc R := q_rc rfl (by rw [List.append_nil]; exact h)
theorem gt_ldiv (h : g_tn n is (pc + 1) L (.long (xl / yl) :: st) w (acc ++ [¬ yl = 0]) R) : g_tn n ((.ldiv, 1, 0, 0) :: is) pc L (.long yl :: .long xl :: st) w acc R := q_rc rfl h
theorem gt_lrem (h : g_tn n is (pc + 1) L (.long (xl - xl / yl * yl) :: st) w (acc ++ [¬ yl = 0]) R) : g_tn n ((.lrem, 1, 0, 0) :: is) pc L (.long yl :: .long xl :: st) w acc R := q_rc rfl h
end GStep
abbrev g_Po : Type := Option Value → q_Mem → Prop
def g_Q (n : Nat) (Q : g_Po) : q_Po := fun r n' w' => n' = n ∧ Q r w'
def g_Ex (n : Nat) (t : Bool) (d : Nat) (M : q_Mt) (pc : Nat) (L : List (Option Value)) (st : List Value) (w : q_Mem) (Q : g_Po) : Prop := q_Ex d 0 0 M n t (pc, L, st, w) (g_Q n Q) (fun _ _ _ => False)
def g_Ev (n : Nat) (t : Bool) (d : Nat) (M : q_Mt) (w : q_Mem) (As : List Value) (Q : g_Po) : Prop := q_Ev d 0 0 M n t w As (g_Q n Q) (fun _ _ _ => False)
def g_I (Q : Int32 → q_Mem → Prop) : g_Po := fun r w => ∃ v, r = some (.int v) ∧ Q v w
def g_V (Q : q_Mem → Prop) : g_Po := fun r w => r = none ∧ Q w
section GRules
variable {n : Nat} {t : Bool} {d k idx x id pc : Nat} {M M' : q_Mt} {L : List (Option Value)} {st As : List Value} {w : q_Mem} {Q Q1 : g_Po}
theorem g_of (hy : plainName M.2.1.cls = true) (hown : M.2.1.cls = q_own M.1) (hlen : (q_ent As).length ≤ M.2.2.2.1) (h : g_Ex n t d M 0 (q_entry As M.2.2.2.1) [] w Q) : g_Ev n t d M w As Q := q_ev_of hy hown hlen h
theorem g_blk (is : List q_RI) (pc' : Nat) (L' : List (Option Value)) (st' : List Value) (w' : q_Mem) (ps : List Prop) (hr : q_chk M.1 M.2.2.2.1 M.2.2.1 pc is = true) (he : g_tn n is pc L st w [] ((pc', L', st', w'), ps)) (hP : q_all ps) (k : g_Ex n t d M pc' L' st' w' Q) : g_Ex n t d M pc L st w Q := by
  unfold g_tn q_rn at he
  rw [List.nil_append] at he
  exact q_Ex_blk is (pc', L', st', w') ps hr he hP k
theorem g_retI {v : Int32} (ty : FieldType) (hd : decode M.2.2.1 pc = .ok (.ireturn, 1)) (h1 : M.2.2.2.2 = some ty) (h2 : narrow ty (.int v) = .int v) (hQ : Q (some (.int v)) w) : g_Ex n t d M pc L [.int v] w Q := q_Ex_ret (some (.int v)) hd ⟨ty, h1, h2⟩ ⟨rfl, hQ⟩
theorem g_retV (hd : decode M.2.2.1 pc = .ok (.return_, 1)) (h1 : M.2.2.2.2 = none) (hQ : Q none w) : g_Ex n t d M pc L [] w Q := q_Ex_ret none hd h1 ⟨rfl, hQ⟩
theorem g_icmp {x y : Int32} {cd : ClassFile.Cond} {off : Int} (tgt : Nat) (hd : decode M.2.2.1 pc = .ok (.if_icmp cd off, 3)) (ht : (pc : Int) + off = (tgt : Int))
    (k1 : q_cnd cd x y → g_Ex n t d M tgt L st w Q) (k2 : ¬ q_cnd cd x y → g_Ex n t d M (pc + 3) L st w Q) : g_Ex n t d M pc L (.int y :: .int x :: st) w Q := q_Ex_icmp tgt hd ht k1 k2
theorem g_if {x : Int32} {cd : ClassFile.Cond} {off : Int} (tgt : Nat) (hd : decode M.2.2.1 pc = .ok (.ifCond cd off, 3)) (ht : (pc : Int) + off = (tgt : Int))
    (k1 : q_cnd cd x 0 → g_Ex n t d M tgt L st w Q) (k2 : ¬ q_cnd cd x 0 → g_Ex n t d M (pc + 3) L st w Q) : g_Ex n t d M pc L (.int x :: st) w Q := q_Ex_if tgt hd ht k1 k2
theorem g_mono (h : g_Ev n t d M w As Q1) (hQ : ∀ r u, Q1 r u → Q r u) : g_Ev n t d M w As Q := q_Ev_mono h (fun r n' w' ⟨h1, h3⟩ => ⟨h1, hQ r w' h3⟩) (fun _ _ _ h => h)
theorem g_callV (hm : q_mokV M' x k) (hl : Cond.methodLink (q_own M.1) idx M'.2.1 ∈ q_TB) (hdec : decode M.2.2.1 pc = .ok (.invokevirtual idx, 3)) (hid : q_id n x id) (hlen : As.length = k) (hst : (st.map fun v => v.category).sum ≤ 8)
    (E : g_Ev n t d M' w (.ref id :: As) (fun r u => g_Ex n t (d + 1) M (pc + 3) L (r.toList ++ st) u Q)) : g_Ex n t (d + 1) M pc L (As.reverse ++ .ref id :: st) w Q := by
  refine q_Ex_callV (a' := 0) (b' := 0) hm hl hdec E hid hlen hst (Nat.le_refl _) (Nat.le_refl _) (Nat.le_refl _) (fun _ r n' w' h => h.1) ?_ (fun E n' w' h => h)
  rintro r n' w' ⟨rfl, h⟩
  exact h
theorem g_I_of {Q9 : Int32 → q_Mem → Prop} {K : g_Po} (h : ∀ v u, Q9 v u → K (some (.int v)) u) : ∀ r u, g_I Q9 r u → K r u := by
  rintro r u ⟨v, rfl, h9⟩; exact h v u h9
theorem g_V_of {Q9 : q_Mem → Prop} {K : g_Po} (h : ∀ u, Q9 u → K none u) : ∀ r u, g_V Q9 r u → K r u := by
  rintro r u ⟨rfl, h9⟩; exact h u h9
end GRules
def gvX5_emit_0 (n : Nat) (t : Bool) (d : Nat) (o0 : Nat) (x1 : Int32) (w : q_Mem) (Q : g_Po) : Prop := (q_id n 5 o0) ∧ ((150 ≤ (w.1 o0 1)) → Q none w) ∧ (¬ (150 ≤ (w.1 o0 1)) → (q_id n 5 o0) ∧ (w.2.2 5 o0 0 = (o0 + 1)) ∧ (q_id n 5 o0) ∧ (q_id n 14 (o0 + 1)) ∧ (vp_in (w.1 o0 1) (q_sh (o0 + 1)).2) ∧ ∀ w_1 : q_Mem, w_1 = g_wI w (o0 + 1) (Int32.toNatClampNeg (w.1 o0 1)) x1 → (q_id n 5 o0) ∧ (q_id n 5 o0) ∧ ∀ w_2 : q_Mem, w_2 = g_wI w_1 o0 1 ((w_1.1 o0 1) + 1) → Q none w_2)
theorem gxX5_emit_0 {n : Nat} {t : Bool} {d : Nat} {o0 : Nat} {x1 : Int32} {w : q_Mem} {Q : g_Po} (h : gvX5_emit_0 n t d o0 x1 w Q) : g_Ex n t (d + 1) mX5_emit 0 [some (.ref (o0)), some (.int (x1))] [] w Q := by
  unfold gvX5_emit_0 at h
  obtain ⟨ho10, h⟩ := h
  refine g_blk [(.aload_n 0, 1, 0, 0), (.getfield 24, 3, 5, 1), (.sipush 150, 3, 0, 0)] 7 [some (.ref (o0)), some (.int (x1))] [.int (150), .int (w.1 o0 1)] w [q_id n 5 o0] (by decide +kernel) (by refine gt_aload_n (r := o0) rfl ?_; refine gt_getI rfl rfl ?_; refine gt_sipush qs_150 ?_; exact gt_z rfl rfl rfl rfl rfl) ho10 ?_
  refine g_icmp (cd := .ge) (off := 23) 30 (by decide +kernel) (by decide) (fun hc => ?_) (fun hc => ?_)
  · replace h := h.1 hc
    exact g_retV (by decide +kernel) rfl h
  · replace h := h.2 hc
    obtain ⟨ho3, h⟩ := h
    obtain ⟨he4, h⟩ := h
    obtain ⟨ho5, h⟩ := h
    obtain ⟨ho6, h⟩ := h
    obtain ⟨ho7, h⟩ := h
    replace h := h _ rfl
    obtain ⟨ho8, h⟩ := h
    obtain ⟨ho9, h⟩ := h
    replace h := h _ rfl
    refine g_blk [(.aload_n 0, 1, 0, 0), (.getfield 9, 3, 5, 0), (.aload_n 0, 1, 0, 0), (.getfield 24, 3, 5, 1), (.iload_n 1, 1, 0, 0), (.iastore, 1, 0, 0), (.aload_n 0, 1, 0, 0), (.dup, 1, 0, 0), (.getfield 24, 3, 5, 1), (.iconst 1, 1, 0, 0), (.iadd, 1, 0, 0), (.putfield 24, 3, 5, 1)] 30 [some (.ref (o0)), some (.int (x1))] [] (g_wI (g_wI w (o0 + 1) (Int32.toNatClampNeg (w.1 o0 1)) x1) o0 1 (((g_wI w (o0 + 1) (Int32.toNatClampNeg (w.1 o0 1)) x1).1 o0 1) + 1)) [q_id n 5 o0, q_id n 5 o0, q_id n 14 (o0 + 1), vp_in (w.1 o0 1) (q_sh (o0 + 1)).2, q_id n 5 o0, q_id n 5 o0] (by decide +kernel) (by refine gt_aload_n (r := o0) rfl ?_; refine gt_getR (r := o0 + 1) rfl rfl he4 ?_; refine gt_aload_n (r := o0) rfl ?_; refine gt_getI rfl rfl ?_; refine gt_iload_n (x := x1) rfl ?_; refine gt_iast ?_; refine gt_aload_n (r := o0) rfl ?_; refine gt_dupR ?_; refine gt_getI rfl rfl ?_; refine gt_iconst qc_1 ?_; refine gt_iadd ?_; refine gt_putI rfl ?_; exact gt_z rfl rfl rfl rfl rfl) ⟨ho3, ho5, ho6, ho7, ho8, ho9⟩ ?_
    exact g_retV (by decide +kernel) rfl h
theorem geX5_emit {n : Nat} {t : Bool} {d : Nat} {o0 : Nat} {x1 : Int32} {w : q_Mem} {Q : g_Po} (h : gvX5_emit_0 n t d o0 x1 w Q) : g_Ev n t (d + 1) mX5_emit w [.ref (o0), .int (x1)] Q := g_of (by decide +kernel) rfl (Nat.le_of_ble_eq_true rfl) (gxX5_emit_0 h)
def gvX5_setPlain_0 (n : Nat) (t : Bool) (d : Nat) (o0 : Nat) (w : q_Mem) (Q : g_Po) : Prop := (q_id n 5 o0) ∧ ∀ w_1 : q_Mem, w_1 = g_wI w o0 1 0 → q_id n 5 o0 ∧ g_Ev n t d mX5_emit w_1 [.ref (o0), .int (-1)] (g_V fun u3 => q_id n 5 o0 ∧ g_Ev n t d mX5_emit u3 [.ref (o0), .int (-2)] (g_V fun u5 => q_id n 5 o0 ∧ g_Ev n t d mX5_emit u5 [.ref (o0), .int (-10)] (g_V fun u7 => q_id n 5 o0 ∧ g_Ev n t d mX5_emit u7 [.ref (o0), .int (16)] (g_V fun u9 => q_id n 5 o0 ∧ g_Ev n t d mX5_emit u9 [.ref (o0), .int (-11)] (g_V fun u11 => Q none u11)))))
theorem gxX5_setPlain_0 {n : Nat} {t : Bool} {d : Nat} {o0 : Nat} {w : q_Mem} {Q : g_Po} (h : gvX5_setPlain_0 n t d o0 w Q) : g_Ex n t (d + 1) mX5_setPlain 0 [some (.ref (o0))] [] w Q := by
  unfold gvX5_setPlain_0 at h
  obtain ⟨ho12, h⟩ := h
  replace h := h _ rfl
  refine g_blk [(.aload_n 0, 1, 0, 0), (.iconst 0, 1, 0, 0), (.putfield 24, 3, 5, 1), (.aload_n 0, 1, 0, 0), (.iconst (-1), 1, 0, 0)] 7 [some (.ref (o0))] [.int (-1), .ref (o0)] (g_wI w o0 1 0) [q_id n 5 o0] (by decide +kernel) (by refine gt_aload_n (r := o0) rfl ?_; refine gt_iconst qc_0 ?_; refine gt_putI rfl ?_; refine gt_aload_n (r := o0) rfl ?_; refine gt_iconst qc_m1 ?_; exact gt_z rfl rfl rfl rfl rfl) ho12 ?_
  obtain ⟨hid, h⟩ := h
  refine g_callV (As := [.int (-1)]) (id := o0) (st := []) kX5_emit l_5_28 (by decide +kernel) hid rfl (Nat.le_of_ble_eq_true rfl) (g_mono h (g_V_of (fun u3 h => ?_)))
  show g_Ex n t (d + 1) mX5_setPlain 10 [some (.ref (o0))] [] u3 Q
  refine g_blk [(.aload_n 0, 1, 0, 0), (.bipush (-2), 2, 0, 0)] 13 [some (.ref (o0))] [.int (-2), .ref (o0)] u3 [] (by decide +kernel) (by refine gt_aload_n (r := o0) rfl ?_; refine gt_bipush qb_m2 ?_; exact gt_z rfl rfl rfl rfl rfl) trivial ?_
  obtain ⟨hid, h⟩ := h
  refine g_callV (As := [.int (-2)]) (id := o0) (st := []) kX5_emit l_5_28 (by decide +kernel) hid rfl (Nat.le_of_ble_eq_true rfl) (g_mono h (g_V_of (fun u5 h => ?_)))
  show g_Ex n t (d + 1) mX5_setPlain 16 [some (.ref (o0))] [] u5 Q
  refine g_blk [(.aload_n 0, 1, 0, 0), (.bipush (-10), 2, 0, 0)] 19 [some (.ref (o0))] [.int (-10), .ref (o0)] u5 [] (by decide +kernel) (by refine gt_aload_n (r := o0) rfl ?_; refine gt_bipush qb_m10 ?_; exact gt_z rfl rfl rfl rfl rfl) trivial ?_
  obtain ⟨hid, h⟩ := h
  refine g_callV (As := [.int (-10)]) (id := o0) (st := []) kX5_emit l_5_28 (by decide +kernel) hid rfl (Nat.le_of_ble_eq_true rfl) (g_mono h (g_V_of (fun u7 h => ?_)))
  show g_Ex n t (d + 1) mX5_setPlain 22 [some (.ref (o0))] [] u7 Q
  refine g_blk [(.aload_n 0, 1, 0, 0), (.bipush 16, 2, 0, 0)] 25 [some (.ref (o0))] [.int (16), .ref (o0)] u7 [] (by decide +kernel) (by refine gt_aload_n (r := o0) rfl ?_; refine gt_bipush qb_16 ?_; exact gt_z rfl rfl rfl rfl rfl) trivial ?_
  obtain ⟨hid, h⟩ := h
  refine g_callV (As := [.int (16)]) (id := o0) (st := []) kX5_emit l_5_28 (by decide +kernel) hid rfl (Nat.le_of_ble_eq_true rfl) (g_mono h (g_V_of (fun u9 h => ?_)))
  show g_Ex n t (d + 1) mX5_setPlain 28 [some (.ref (o0))] [] u9 Q
  refine g_blk [(.aload_n 0, 1, 0, 0), (.bipush (-11), 2, 0, 0)] 31 [some (.ref (o0))] [.int (-11), .ref (o0)] u9 [] (by decide +kernel) (by refine gt_aload_n (r := o0) rfl ?_; refine gt_bipush qb_m11 ?_; exact gt_z rfl rfl rfl rfl rfl) trivial ?_
  obtain ⟨hid, h⟩ := h
  refine g_callV (As := [.int (-11)]) (id := o0) (st := []) kX5_emit l_5_28 (by decide +kernel) hid rfl (Nat.le_of_ble_eq_true rfl) (g_mono h (g_V_of (fun u11 h => ?_)))
  show g_Ex n t (d + 1) mX5_setPlain 34 [some (.ref (o0))] [] u11 Q
  exact g_retV (by decide +kernel) rfl h
theorem geX5_setPlain {n : Nat} {t : Bool} {d : Nat} {o0 : Nat} {w : q_Mem} {Q : g_Po} (h : gvX5_setPlain_0 n t d o0 w Q) : g_Ev n t (d + 1) mX5_setPlain w [.ref (o0)] Q := g_of (by decide +kernel) rfl (Nat.le_of_ble_eq_true rfl) (gxX5_setPlain_0 h)
def gvX12_clears_0 (n : Nat) (t : Bool) (d : Nat)  (w : q_Mem) (Q : g_Po) : Prop := (q_id n 12 79) ∧ ∀ w_1 : q_Mem, w_1 = g_wI w 79 24 0 → (q_id n 12 79) ∧ ∀ w_2 : q_Mem, w_2 = g_wI w_1 79 25 0 → (q_id n 12 79) ∧ ∀ w_3 : q_Mem, w_3 = g_wI w_2 79 26 0 → (q_id n 12 79) ∧ ∀ w_4 : q_Mem, w_4 = g_wI w_3 79 27 0 → (q_id n 12 79) ∧ ∀ w_5 : q_Mem, w_5 = g_wI w_4 79 28 0 → g_Ex n t (d + 1) mX12_clears 27 [some (.ref (79)), some (.int (0))] [] w_5 Q
def gvX12_clears_27 (n : Nat) (t : Bool) (d : Nat) (x1 : Int32) (w : q_Mem) (Q : g_Po) : Prop := ((20 ≤ x1) → g_Ex n t (d + 1) mX12_clears 48 [some (.ref (79)), some (.int (0))] [] w Q) ∧ (¬ (20 ≤ x1) → (q_id n 12 79) ∧ (w.2.2 12 79 13 = 85) ∧ (q_id n 14 85) ∧ (vp_in x1 20) ∧ ∀ w_11 : q_Mem, w_11 = g_wI w 85 (Int32.toNatClampNeg x1) 0 → g_Ex n t (d + 1) mX12_clears 27 [some (.ref (79)), some (.int (x1 + 1))] [] w_11 Q)
def gvX12_clears_48 (n : Nat) (t : Bool) (d : Nat) (x1 : Int32) (w : q_Mem) (Q : g_Po) : Prop := ((4 ≤ x1) → g_Ex n t (d + 1) mX12_clears 68 [some (.ref (79)), some (.int (0))] [] w Q) ∧ (¬ (4 ≤ x1) → (q_id n 12 79) ∧ (w.2.2 12 79 14 = 86) ∧ (q_id n 14 86) ∧ (vp_in x1 4) ∧ ∀ w_16 : q_Mem, w_16 = g_wI w 86 (Int32.toNatClampNeg x1) 0 → g_Ex n t (d + 1) mX12_clears 48 [some (.ref (79)), some (.int (x1 + 1))] [] w_16 Q)
def gvX12_clears_68 (n : Nat) (t : Bool) (d : Nat) (x1 : Int32) (w : q_Mem) (Q : g_Po) : Prop := ((36 ≤ x1) → Q none w) ∧ (¬ (36 ≤ x1) → (q_id n 12 79) ∧ (w.2.2 12 79 16 = 88) ∧ (q_id n 14 88) ∧ (vp_in x1 36) ∧ ∀ w_21 : q_Mem, w_21 = g_wI w 88 (Int32.toNatClampNeg x1) 0 → g_Ex n t (d + 1) mX12_clears 68 [some (.ref (79)), some (.int (x1 + 1))] [] w_21 Q)
theorem gxX12_clears_0 {n : Nat} {t : Bool} {d : Nat}  {w : q_Mem} {Q : g_Po} (h : gvX12_clears_0 n t d  w Q) : g_Ex n t (d + 1) mX12_clears 0 [some (.ref (79)), none] [] w Q := by
  unfold gvX12_clears_0 at h
  obtain ⟨ho6, h⟩ := h
  replace h := h _ rfl
  obtain ⟨ho7, h⟩ := h
  replace h := h _ rfl
  obtain ⟨ho8, h⟩ := h
  replace h := h _ rfl
  obtain ⟨ho9, h⟩ := h
  replace h := h _ rfl
  obtain ⟨ho10, h⟩ := h
  replace h := h _ rfl
  refine g_blk [(.aload_n 0, 1, 0, 0), (.iconst 0, 1, 0, 0), (.putfield 178, 3, 12, 24), (.aload_n 0, 1, 0, 0), (.iconst 0, 1, 0, 0), (.putfield 181, 3, 12, 25), (.aload_n 0, 1, 0, 0), (.iconst 0, 1, 0, 0), (.putfield 184, 3, 12, 26), (.aload_n 0, 1, 0, 0), (.iconst 0, 1, 0, 0), (.putfield 187, 3, 12, 27), (.aload_n 0, 1, 0, 0), (.iconst 0, 1, 0, 0), (.putfield 190, 3, 12, 28), (.iconst 0, 1, 0, 0), (.istore_n 1, 1, 0, 0)] 27 [some (.ref (79)), some (.int (0))] [] (g_wI (g_wI (g_wI (g_wI (g_wI w 79 24 0) 79 25 0) 79 26 0) 79 27 0) 79 28 0) [q_id n 12 79, q_id n 12 79, q_id n 12 79, q_id n 12 79, q_id n 12 79] (by decide +kernel) (by refine gt_aload_n (r := 79) rfl ?_; refine gt_iconst qc_0 ?_; refine gt_putI rfl ?_; refine gt_aload_n (r := 79) rfl ?_; refine gt_iconst qc_0 ?_; refine gt_putI rfl ?_; refine gt_aload_n (r := 79) rfl ?_; refine gt_iconst qc_0 ?_; refine gt_putI rfl ?_; refine gt_aload_n (r := 79) rfl ?_; refine gt_iconst qc_0 ?_; refine gt_putI rfl ?_; refine gt_aload_n (r := 79) rfl ?_; refine gt_iconst qc_0 ?_; refine gt_putI rfl ?_; refine gt_iconst qc_0 ?_; refine gt_istore_n (L' := [some (.ref (79)), some (.int (0))]) rfl ?_; exact gt_z rfl rfl rfl rfl rfl) ⟨ho6, ho7, ho8, ho9, ho10⟩ ?_
  exact h
theorem gxX12_clears_27 {n : Nat} {t : Bool} {d : Nat} {x1 : Int32} {w : q_Mem} {Q : g_Po} (h : gvX12_clears_27 n t d x1 w Q) : g_Ex n t (d + 1) mX12_clears 27 [some (.ref (79)), some (.int (x1))] [] w Q := by
  unfold gvX12_clears_27 at h
  refine g_blk [(.iload_n 1, 1, 0, 0), (.bipush 20, 2, 0, 0)] 30 [some (.ref (79)), some (.int (x1))] [.int (20), .int (x1)] w [] (by decide +kernel) (by refine gt_iload_n (x := x1) rfl ?_; refine gt_bipush qb_20 ?_; exact gt_z rfl rfl rfl rfl rfl) trivial ?_
  refine g_icmp (cd := .ge) (off := 16) 46 (by decide +kernel) (by decide) (fun hc => ?_) (fun hc => ?_)
  · replace h := h.1 hc
    refine g_blk [(.iconst 0, 1, 0, 0), (.istore_n 1, 1, 0, 0)] 48 [some (.ref (79)), some (.int (0))] [] w [] (by decide +kernel) (by refine gt_iconst qc_0 ?_; refine gt_istore_n (L' := [some (.ref (79)), some (.int (0))]) rfl ?_; exact gt_z rfl rfl rfl rfl rfl) trivial ?_
    exact h
  · replace h := h.2 hc
    obtain ⟨ho12, h⟩ := h
    obtain ⟨he13, h⟩ := h
    obtain ⟨ho14, h⟩ := h
    obtain ⟨ho15, h⟩ := h
    replace h := h _ rfl
    refine g_blk [(.aload_n 0, 1, 0, 0), (.getfield 32, 3, 12, 13), (.iload_n 1, 1, 0, 0), (.iconst 0, 1, 0, 0), (.iastore, 1, 0, 0), (.iinc 1 1, 3, 0, 0), (.goto (-16), 3, 27, 0)] 27 [some (.ref (79)), some (.int (x1 + 1))] [] (g_wI w 85 (Int32.toNatClampNeg x1) 0) [q_id n 12 79, q_id n 14 85, vp_in x1 20] (by decide +kernel) (by refine gt_aload_n (r := 79) rfl ?_; refine gt_getR (r := 85) rfl rfl he13 ?_; refine gt_iload_n (x := x1) rfl ?_; refine gt_iconst qc_0 ?_; refine gt_iast ?_; refine gt_iinc (x := x1) (L' := [some (.ref (79)), some (.int (x1 + 1))]) rfl qc_1 rfl ?_; refine gt_goto ?_; exact gt_z rfl rfl rfl rfl rfl) ⟨ho12, ho14, ho15⟩ ?_
    exact h
theorem gxX12_clears_48 {n : Nat} {t : Bool} {d : Nat} {x1 : Int32} {w : q_Mem} {Q : g_Po} (h : gvX12_clears_48 n t d x1 w Q) : g_Ex n t (d + 1) mX12_clears 48 [some (.ref (79)), some (.int (x1))] [] w Q := by
  unfold gvX12_clears_48 at h
  refine g_blk [(.iload_n 1, 1, 0, 0), (.iconst 4, 1, 0, 0)] 50 [some (.ref (79)), some (.int (x1))] [.int (4), .int (x1)] w [] (by decide +kernel) (by refine gt_iload_n (x := x1) rfl ?_; refine gt_iconst qc_4 ?_; exact gt_z rfl rfl rfl rfl rfl) trivial ?_
  refine g_icmp (cd := .ge) (off := 16) 66 (by decide +kernel) (by decide) (fun hc => ?_) (fun hc => ?_)
  · replace h := h.1 hc
    refine g_blk [(.iconst 0, 1, 0, 0), (.istore_n 1, 1, 0, 0)] 68 [some (.ref (79)), some (.int (0))] [] w [] (by decide +kernel) (by refine gt_iconst qc_0 ?_; refine gt_istore_n (L' := [some (.ref (79)), some (.int (0))]) rfl ?_; exact gt_z rfl rfl rfl rfl rfl) trivial ?_
    exact h
  · replace h := h.2 hc
    obtain ⟨ho17, h⟩ := h
    obtain ⟨he18, h⟩ := h
    obtain ⟨ho19, h⟩ := h
    obtain ⟨ho20, h⟩ := h
    replace h := h _ rfl
    refine g_blk [(.aload_n 0, 1, 0, 0), (.getfield 35, 3, 12, 14), (.iload_n 1, 1, 0, 0), (.iconst 0, 1, 0, 0), (.iastore, 1, 0, 0), (.iinc 1 1, 3, 0, 0), (.goto (-15), 3, 48, 0)] 48 [some (.ref (79)), some (.int (x1 + 1))] [] (g_wI w 86 (Int32.toNatClampNeg x1) 0) [q_id n 12 79, q_id n 14 86, vp_in x1 4] (by decide +kernel) (by refine gt_aload_n (r := 79) rfl ?_; refine gt_getR (r := 86) rfl rfl he18 ?_; refine gt_iload_n (x := x1) rfl ?_; refine gt_iconst qc_0 ?_; refine gt_iast ?_; refine gt_iinc (x := x1) (L' := [some (.ref (79)), some (.int (x1 + 1))]) rfl qc_1 rfl ?_; refine gt_goto ?_; exact gt_z rfl rfl rfl rfl rfl) ⟨ho17, ho19, ho20⟩ ?_
    exact h
theorem gxX12_clears_68 {n : Nat} {t : Bool} {d : Nat} {x1 : Int32} {w : q_Mem} {Q : g_Po} (h : gvX12_clears_68 n t d x1 w Q) : g_Ex n t (d + 1) mX12_clears 68 [some (.ref (79)), some (.int (x1))] [] w Q := by
  unfold gvX12_clears_68 at h
  refine g_blk [(.iload_n 1, 1, 0, 0), (.bipush 36, 2, 0, 0)] 71 [some (.ref (79)), some (.int (x1))] [.int (36), .int (x1)] w [] (by decide +kernel) (by refine gt_iload_n (x := x1) rfl ?_; refine gt_bipush qb_36 ?_; exact gt_z rfl rfl rfl rfl rfl) trivial ?_
  refine g_icmp (cd := .ge) (off := 16) 87 (by decide +kernel) (by decide) (fun hc => ?_) (fun hc => ?_)
  · replace h := h.1 hc
    exact g_retV (by decide +kernel) rfl h
  · replace h := h.2 hc
    obtain ⟨ho22, h⟩ := h
    obtain ⟨he23, h⟩ := h
    obtain ⟨ho24, h⟩ := h
    obtain ⟨ho25, h⟩ := h
    replace h := h _ rfl
    refine g_blk [(.aload_n 0, 1, 0, 0), (.getfield 41, 3, 12, 16), (.iload_n 1, 1, 0, 0), (.iconst 0, 1, 0, 0), (.iastore, 1, 0, 0), (.iinc 1 1, 3, 0, 0), (.goto (-16), 3, 68, 0)] 68 [some (.ref (79)), some (.int (x1 + 1))] [] (g_wI w 88 (Int32.toNatClampNeg x1) 0) [q_id n 12 79, q_id n 14 88, vp_in x1 36] (by decide +kernel) (by refine gt_aload_n (r := 79) rfl ?_; refine gt_getR (r := 88) rfl rfl he23 ?_; refine gt_iload_n (x := x1) rfl ?_; refine gt_iconst qc_0 ?_; refine gt_iast ?_; refine gt_iinc (x := x1) (L' := [some (.ref (79)), some (.int (x1 + 1))]) rfl qc_1 rfl ?_; refine gt_goto ?_; exact gt_z rfl rfl rfl rfl rfl) ⟨ho22, ho24, ho25⟩ ?_
    exact h
theorem geX12_clears {n : Nat} {t : Bool} {d : Nat}  {w : q_Mem} {Q : g_Po} (h : gvX12_clears_0 n t d  w Q) : g_Ev n t (d + 1) mX12_clears w [.ref (79)] Q := g_of (by decide +kernel) rfl (Nat.le_of_ble_eq_true rfl) (gxX12_clears_0 h)
def gvX12_copies_0 (n : Nat) (t : Bool) (d : Nat) (r1 : Nat) (r2 : Nat) (x3 : Int32) (w : q_Mem) (Q : g_Po) : Prop := g_Ex n t (d + 1) mX12_copies 3 [none, some (.ref (r1)), some (.ref (r2)), some (.int (x3)), some (.int (0))] [] w Q
def gvX12_copies_3 (n : Nat) (t : Bool) (d : Nat) (r1 : Nat) (r2 : Nat) (x3 : Int32) (x4 : Int32) (w : q_Mem) (Q : g_Po) : Prop := ((x3 ≤ x4) → Q none w) ∧ (¬ (x3 ≤ x4) → (q_id n 14 r1) ∧ (vp_in x4 (q_sh r1).2) ∧ (q_id n 14 r2) ∧ (vp_in x4 (q_sh r2).2) ∧ ∀ w_1 : q_Mem, w_1 = g_wI w r2 (Int32.toNatClampNeg x4) (w.1 r1 (Int32.toNatClampNeg x4)) → g_Ex n t (d + 1) mX12_copies 3 [none, some (.ref (r1)), some (.ref (r2)), some (.int (x3)), some (.int (x4 + 1))] [] w_1 Q)
theorem gxX12_copies_0 {n : Nat} {t : Bool} {d : Nat} {r1 : Nat} {r2 : Nat} {x3 : Int32} {w : q_Mem} {Q : g_Po} (h : gvX12_copies_0 n t d r1 r2 x3 w Q) : g_Ex n t (d + 1) mX12_copies 0 [some (.ref (79)), some (.ref (r1)), some (.ref (r2)), some (.int (x3)), none] [] w Q := by
  unfold gvX12_copies_0 at h
  refine g_blk [(.iconst 0, 1, 0, 0), (.istore 4, 2, 0, 0), (.nop, 0, 0, 0)] 3 [none, some (.ref (r1)), some (.ref (r2)), some (.int (x3)), some (.int (0))] [] w [] (by decide +kernel) (by refine gt_iconst qc_0 ?_; refine gt_istore (L' := [some (.ref (79)), some (.ref (r1)), some (.ref (r2)), some (.int (x3)), some (.int (0))]) rfl ?_; refine gt_nop (L' := [none, some (.ref (r1)), some (.ref (r2)), some (.int (x3)), some (.int (0))]) rfl ?_; exact gt_z rfl rfl rfl rfl rfl) trivial ?_
  exact h
theorem gxX12_copies_3 {n : Nat} {t : Bool} {d : Nat} {r1 : Nat} {r2 : Nat} {x3 : Int32} {x4 : Int32} {w : q_Mem} {Q : g_Po} (h : gvX12_copies_3 n t d r1 r2 x3 x4 w Q) : g_Ex n t (d + 1) mX12_copies 3 [none, some (.ref (r1)), some (.ref (r2)), some (.int (x3)), some (.int (x4))] [] w Q := by
  unfold gvX12_copies_3 at h
  refine g_blk [(.iload 4, 2, 0, 0), (.iload_n 3, 1, 0, 0)] 6 [none, some (.ref (r1)), some (.ref (r2)), some (.int (x3)), some (.int (x4))] [.int (x3), .int (x4)] w [] (by decide +kernel) (by refine gt_iload (x := x4) rfl ?_; refine gt_iload_n (x := x3) rfl ?_; exact gt_z rfl rfl rfl rfl rfl) trivial ?_
  refine g_icmp (cd := .ge) (off := 17) 23 (by decide +kernel) (by decide) (fun hc => ?_) (fun hc => ?_)
  · replace h := h.1 hc
    exact g_retV (by decide +kernel) rfl h
  · replace h := h.2 hc
    obtain ⟨ho2, h⟩ := h
    obtain ⟨ho3, h⟩ := h
    obtain ⟨ho4, h⟩ := h
    obtain ⟨ho5, h⟩ := h
    replace h := h _ rfl
    refine g_blk [(.aload_n 2, 1, 0, 0), (.iload 4, 2, 0, 0), (.aload_n 1, 1, 0, 0), (.iload 4, 2, 0, 0), (.iaload, 1, 0, 0), (.iastore, 1, 0, 0), (.iinc 4 1, 3, 0, 0), (.goto (-17), 3, 3, 0)] 3 [none, some (.ref (r1)), some (.ref (r2)), some (.int (x3)), some (.int (x4 + 1))] [] (g_wI w r2 (Int32.toNatClampNeg x4) (w.1 r1 (Int32.toNatClampNeg x4))) [q_id n 14 r1, vp_in x4 (q_sh r1).2, q_id n 14 r2, vp_in x4 (q_sh r2).2] (by decide +kernel) (by refine gt_aload_n (r := r2) rfl ?_; refine gt_iload (x := x4) rfl ?_; refine gt_aload_n (r := r1) rfl ?_; refine gt_iload (x := x4) rfl ?_; refine gt_iald ?_; refine gt_iast ?_; refine gt_iinc (x := x4) (L' := [none, some (.ref (r1)), some (.ref (r2)), some (.int (x3)), some (.int (x4 + 1))]) rfl qc_1 rfl ?_; refine gt_goto ?_; exact gt_z rfl rfl rfl rfl rfl) ⟨ho2, ho3, ho4, ho5⟩ ?_
    exact h
theorem geX12_copies {n : Nat} {t : Bool} {d : Nat} {r1 : Nat} {r2 : Nat} {x3 : Int32} {w : q_Mem} {Q : g_Po} (h : gvX12_copies_0 n t d r1 r2 x3 w Q) : g_Ev n t (d + 1) mX12_copies w [.ref (79), .ref (r1), .ref (r2), .int (x3)] Q := g_of (by decide +kernel) rfl (Nat.le_of_ble_eq_true rfl) (gxX12_copies_0 h)
def gvX12_lightOf_0 (n : Nat) (t : Bool) (d : Nat) (x1 : Int32) (x2 : Int32) (w : q_Mem) (Q : g_Po) : Prop := (q_id n 12 79) ∧ ((¬ (w.1 79 31) = 0) → (q_id n 12 79) ∧ (w.2.2 12 79 19 = 91) ∧ (q_id n 12 79) ∧ (¬ (w.1 79 31) = 0) ∧ (q_id n 14 91) ∧ (vp_in ((4 * (x1 - x1 / (w.1 79 31) * (w.1 79 31))) + x2) 48) ∧ Q (some (.int (w.1 91 (Int32.toNatClampNeg ((4 * (x1 - x1 / (w.1 79 31) * (w.1 79 31))) + x2))))) w) ∧ (¬ (¬ (w.1 79 31) = 0) → Q (some (.int (0))) w)
theorem gxX12_lightOf_0 {n : Nat} {t : Bool} {d : Nat} {x1 : Int32} {x2 : Int32} {w : q_Mem} {Q : g_Po} (h : gvX12_lightOf_0 n t d x1 x2 w Q) : g_Ex n t (d + 1) mX12_lightOf 0 [some (.ref (79)), some (.int (x1)), some (.int (x2))] [] w Q := by
  unfold gvX12_lightOf_0 at h
  obtain ⟨ho7, h⟩ := h
  refine g_blk [(.aload_n 0, 1, 0, 0), (.getfield 199, 3, 12, 31)] 4 [some (.ref (79)), some (.int (x1)), some (.int (x2))] [.int (w.1 79 31)] w [q_id n 12 79] (by decide +kernel) (by refine gt_aload_n (r := 79) rfl ?_; refine gt_getI rfl rfl ?_; exact gt_z rfl rfl rfl rfl rfl) ho7 ?_
  refine g_if (cd := .ne) (off := 7) 11 (by decide +kernel) (by decide) (fun hc => ?_) (fun hc => ?_)
  · replace h := h.1 hc
    obtain ⟨ho1, h⟩ := h
    obtain ⟨he2, h⟩ := h
    obtain ⟨ho3, h⟩ := h
    obtain ⟨ho4, h⟩ := h
    obtain ⟨ho5, h⟩ := h
    obtain ⟨ho6, h⟩ := h
    refine g_blk [(.aload_n 0, 1, 0, 0), (.getfield 50, 3, 12, 19), (.iconst 4, 1, 0, 0), (.iload_n 1, 1, 0, 0), (.aload_n 0, 1, 0, 0), (.getfield 199, 3, 12, 31), (.irem, 1, 0, 0), (.imul, 1, 0, 0), (.iload_n 2, 1, 0, 0), (.iadd, 1, 0, 0), (.iaload, 1, 0, 0)] 26 [some (.ref (79)), some (.int (x1)), some (.int (x2))] [.int (w.1 91 (Int32.toNatClampNeg ((4 * (x1 - x1 / (w.1 79 31) * (w.1 79 31))) + x2)))] w [q_id n 12 79, q_id n 12 79, ¬ (w.1 79 31) = 0, q_id n 14 91, vp_in ((4 * (x1 - x1 / (w.1 79 31) * (w.1 79 31))) + x2) 48] (by decide +kernel) (by refine gt_aload_n (r := 79) rfl ?_; refine gt_getR (r := 91) rfl rfl he2 ?_; refine gt_iconst qc_4 ?_; refine gt_iload_n (x := x1) rfl ?_; refine gt_aload_n (r := 79) rfl ?_; refine gt_getI rfl rfl ?_; refine gt_irem ?_; refine gt_imul ?_; refine gt_iload_n (x := x2) rfl ?_; refine gt_iadd ?_; refine gt_iald ?_; exact gt_z rfl rfl rfl rfl rfl) ⟨ho1, ho3, ho4, ho5, ho6⟩ ?_
    exact g_retI .int (by decide +kernel) rfl rfl h
  · replace h := h.2 hc
    refine g_blk [(.iconst 0, 1, 0, 0), (.goto 18, 3, 26, 0)] 26 [some (.ref (79)), some (.int (x1)), some (.int (x2))] [.int (0)] w [] (by decide +kernel) (by refine gt_iconst qc_0 ?_; refine gt_goto ?_; exact gt_z rfl rfl rfl rfl rfl) trivial ?_
    exact g_retI .int (by decide +kernel) rfl rfl h
theorem geX12_lightOf {n : Nat} {t : Bool} {d : Nat} {x1 : Int32} {x2 : Int32} {w : q_Mem} {Q : g_Po} (h : gvX12_lightOf_0 n t d x1 x2 w Q) : g_Ev n t (d + 1) mX12_lightOf w [.ref (79), .int (x1), .int (x2)] Q := g_of (by decide +kernel) rfl (Nat.le_of_ble_eq_true rfl) (gxX12_lightOf_0 h)
def gvX12_sets_0 (n : Nat) (t : Bool) (d : Nat)  (w : q_Mem) (Q : g_Po) : Prop := (q_id n 12 79) ∧ (q_id n 12 79) ∧ ∀ w_1 : q_Mem, w_1 = g_wI w 79 29 (w.1 79 24) → (q_id n 12 79) ∧ (q_id n 12 79) ∧ ∀ w_2 : q_Mem, w_2 = g_wI w_1 79 30 (w_1.1 79 25) → (q_id n 12 79) ∧ (q_id n 12 79) ∧ ∀ w_3 : q_Mem, w_3 = g_wI w_2 79 31 (w_2.1 79 26) → (q_id n 12 79) ∧ (q_id n 12 79) ∧ ∀ w_4 : q_Mem, w_4 = g_wI w_3 79 32 (w_3.1 79 27) → (q_id n 12 79) ∧ (q_id n 12 79) ∧ ∀ w_5 : q_Mem, w_5 = g_wI w_4 79 33 (w_4.1 79 28) → (q_id n 12 79) ∧ (w_5.2.2 12 79 10 = 82) ∧ (q_id n 12 79) ∧ (w_5.2.2 12 79 17 = 89) ∧ q_id n 12 79 ∧ g_Ev n t d mX12_copies w_5 [.ref (79), .ref (82), .ref (89), .int (12)] (g_V fun u7 => (q_id n 12 79) ∧ (u7.2.2 12 79 11 = 83) ∧ (q_id n 12 79) ∧ (u7.2.2 12 79 18 = 90) ∧ q_id n 12 79 ∧ g_Ev n t d mX12_copies u7 [.ref (79), .ref (83), .ref (90), .int (50)] (g_V fun u9 => (q_id n 12 79) ∧ (u9.2.2 12 79 12 = 84) ∧ (q_id n 12 79) ∧ (u9.2.2 12 79 19 = 91) ∧ q_id n 12 79 ∧ g_Ev n t d mX12_copies u9 [.ref (79), .ref (84), .ref (91), .int (48)] (g_V fun u11 => (q_id n 12 79) ∧ (u11.2.2 12 79 13 = 85) ∧ (q_id n 12 79) ∧ (u11.2.2 12 79 20 = 92) ∧ q_id n 12 79 ∧ g_Ev n t d mX12_copies u11 [.ref (79), .ref (85), .ref (92), .int (20)] (g_V fun u13 => (q_id n 12 79) ∧ (u13.2.2 12 79 14 = 86) ∧ (q_id n 12 79) ∧ (u13.2.2 12 79 21 = 93) ∧ q_id n 12 79 ∧ g_Ev n t d mX12_copies u13 [.ref (79), .ref (86), .ref (93), .int (4)] (g_V fun u15 => (q_id n 12 79) ∧ (u15.2.2 12 79 15 = 87) ∧ (q_id n 12 79) ∧ (u15.2.2 12 79 22 = 94) ∧ q_id n 12 79 ∧ g_Ev n t d mX12_copies u15 [.ref (79), .ref (87), .ref (94), .int (18)] (g_V fun u17 => (q_id n 12 79) ∧ (u17.2.2 12 79 16 = 88) ∧ (q_id n 12 79) ∧ (u17.2.2 12 79 23 = 95) ∧ q_id n 12 79 ∧ g_Ev n t d mX12_copies u17 [.ref (79), .ref (88), .ref (95), .int (36)] (g_V fun u19 => (q_id n 12 79) ∧ ∀ w_20 : q_Mem, w_20 = g_wI u19 79 40 0 → (q_id n 12 79) ∧ ∀ w_21 : q_Mem, w_21 = g_wI w_20 79 55 0 → (q_id n 12 79) ∧ ∀ w_22 : q_Mem, w_22 = g_wI w_21 79 45 0 → (q_id n 12 79) ∧ ∀ w_23 : q_Mem, w_23 = g_wI w_22 79 66 0 → (q_id n 12 79) ∧ ∀ w_24 : q_Mem, w_24 = g_wI w_23 79 46 0 → g_Ex n t (d + 1) mX12_sets 164 [some (.ref (79)), some (.int (0))] [] w_24 Q)))))))
def gvX12_sets_164 (n : Nat) (t : Bool) (d : Nat) (x1 : Int32) (w : q_Mem) (Q : g_Po) : Prop := ((63 ≤ x1) → g_Ex n t (d + 1) mX12_sets 185 [some (.ref (79)), some (.int (0))] [] w Q) ∧ (¬ (63 ≤ x1) → (q_id n 12 79) ∧ (w.2.2 12 79 50 = 104) ∧ (q_id n 14 104) ∧ (vp_in x1 63) ∧ ∀ w_68 : q_Mem, w_68 = g_wI w 104 (Int32.toNatClampNeg x1) 0 → g_Ex n t (d + 1) mX12_sets 164 [some (.ref (79)), some (.int (x1 + 1))] [] w_68 Q)
def gvX12_sets_185 (n : Nat) (t : Bool) (d : Nat) (x1 : Int32) (w : q_Mem) (Q : g_Po) : Prop := (q_id n 12 79) ∧ (((w.1 79 30) ≤ x1) → g_Ex n t (d + 1) mX12_sets 236 [some (.ref (79)), some (.int (0))] [] w Q) ∧ (¬ ((w.1 79 30) ≤ x1) → (q_id n 12 79) ∧ (w.2.2 12 79 50 = 104) ∧ (q_id n 12 79) ∧ (w.2.2 12 79 18 = 90) ∧ (q_id n 14 90) ∧ (vp_in ((5 * x1) + 2) 50) ∧ (q_id n 14 104) ∧ (vp_in (0 + x1) 63) ∧ ∀ w_73 : q_Mem, w_73 = g_wI w 104 (Int32.toNatClampNeg (0 + x1)) (w.1 90 (Int32.toNatClampNeg ((5 * x1) + 2))) → (q_id n 12 79) ∧ (w_73.2.2 12 79 50 = 104) ∧ (q_id n 12 79) ∧ (w_73.2.2 12 79 18 = 90) ∧ (q_id n 14 90) ∧ (vp_in (5 * x1) 50) ∧ (q_id n 14 104) ∧ (vp_in (10 + x1) 63) ∧ ∀ w_74 : q_Mem, w_74 = g_wI w_73 104 (Int32.toNatClampNeg (10 + x1)) (w_73.1 90 (Int32.toNatClampNeg (5 * x1))) → g_Ex n t (d + 1) mX12_sets 185 [some (.ref (79)), some (.int (x1 + 1))] [] w_74 Q)
def gvX12_sets_236 (n : Nat) (t : Bool) (d : Nat) (x1 : Int32) (w : q_Mem) (Q : g_Po) : Prop := ((4 ≤ x1) → Q none w) ∧ (¬ (4 ≤ x1) → (q_id n 12 79) ∧ (w.2.2 12 79 50 = 104) ∧ q_id n 12 79 ∧ g_Ev n t d mX12_lightOf w [.ref (79), .int (0), .int (x1)] (g_I fun v92 u93 => (q_id n 14 104) ∧ (vp_in (50 + x1) 63) ∧ ∀ w_94 : q_Mem, w_94 = g_wI u93 104 (Int32.toNatClampNeg (50 + x1)) v92 → g_Ex n t (d + 1) mX12_sets 236 [some (.ref (79)), some (.int (x1 + 1))] [] w_94 Q))
theorem gxX12_sets_0 {n : Nat} {t : Bool} {d : Nat}  {w : q_Mem} {Q : g_Po} (h : gvX12_sets_0 n t d  w Q) : g_Ex n t (d + 1) mX12_sets 0 [some (.ref (79)), none] [] w Q := by
  unfold gvX12_sets_0 at h
  obtain ⟨ho54, h⟩ := h
  obtain ⟨ho55, h⟩ := h
  replace h := h _ rfl
  obtain ⟨ho56, h⟩ := h
  obtain ⟨ho57, h⟩ := h
  replace h := h _ rfl
  obtain ⟨ho58, h⟩ := h
  obtain ⟨ho59, h⟩ := h
  replace h := h _ rfl
  obtain ⟨ho60, h⟩ := h
  obtain ⟨ho61, h⟩ := h
  replace h := h _ rfl
  obtain ⟨ho62, h⟩ := h
  obtain ⟨ho63, h⟩ := h
  replace h := h _ rfl
  obtain ⟨ho64, h⟩ := h
  obtain ⟨he65, h⟩ := h
  obtain ⟨ho66, h⟩ := h
  obtain ⟨he67, h⟩ := h
  refine g_blk [(.aload_n 0, 1, 0, 0), (.aload_n 0, 1, 0, 0), (.getfield 178, 3, 12, 24), (.putfield 193, 3, 12, 29), (.aload_n 0, 1, 0, 0), (.aload_n 0, 1, 0, 0), (.getfield 181, 3, 12, 25), (.putfield 196, 3, 12, 30), (.aload_n 0, 1, 0, 0), (.aload_n 0, 1, 0, 0), (.getfield 184, 3, 12, 26), (.putfield 199, 3, 12, 31), (.aload_n 0, 1, 0, 0), (.aload_n 0, 1, 0, 0), (.getfield 187, 3, 12, 27), (.putfield 202, 3, 12, 32), (.aload_n 0, 1, 0, 0), (.aload_n 0, 1, 0, 0), (.getfield 190, 3, 12, 28), (.putfield 205, 3, 12, 33), (.aload_n 0, 1, 0, 0), (.aload_n 0, 1, 0, 0), (.getfield 23, 3, 12, 10), (.aload_n 0, 1, 0, 0), (.getfield 44, 3, 12, 17), (.bipush 12, 2, 0, 0)] 51 [some (.ref (79)), none] [.int (12), .ref (89), .ref (82), .ref (79)] (g_wI (g_wI (g_wI (g_wI (g_wI w 79 29 (w.1 79 24)) 79 30 ((g_wI w 79 29 (w.1 79 24)).1 79 25)) 79 31 ((g_wI (g_wI w 79 29 (w.1 79 24)) 79 30 ((g_wI w 79 29 (w.1 79 24)).1 79 25)).1 79 26)) 79 32 ((g_wI (g_wI (g_wI w 79 29 (w.1 79 24)) 79 30 ((g_wI w 79 29 (w.1 79 24)).1 79 25)) 79 31 ((g_wI (g_wI w 79 29 (w.1 79 24)) 79 30 ((g_wI w 79 29 (w.1 79 24)).1 79 25)).1 79 26)).1 79 27)) 79 33 ((g_wI (g_wI (g_wI (g_wI w 79 29 (w.1 79 24)) 79 30 ((g_wI w 79 29 (w.1 79 24)).1 79 25)) 79 31 ((g_wI (g_wI w 79 29 (w.1 79 24)) 79 30 ((g_wI w 79 29 (w.1 79 24)).1 79 25)).1 79 26)) 79 32 ((g_wI (g_wI (g_wI w 79 29 (w.1 79 24)) 79 30 ((g_wI w 79 29 (w.1 79 24)).1 79 25)) 79 31 ((g_wI (g_wI w 79 29 (w.1 79 24)) 79 30 ((g_wI w 79 29 (w.1 79 24)).1 79 25)).1 79 26)).1 79 27)).1 79 28)) [q_id n 12 79, q_id n 12 79, q_id n 12 79, q_id n 12 79, q_id n 12 79, q_id n 12 79, q_id n 12 79, q_id n 12 79, q_id n 12 79, q_id n 12 79, q_id n 12 79, q_id n 12 79] (by decide +kernel) (by refine gt_aload_n (r := 79) rfl ?_; refine gt_aload_n (r := 79) rfl ?_; refine gt_getI rfl rfl ?_; refine gt_putI rfl ?_; refine gt_aload_n (r := 79) rfl ?_; refine gt_aload_n (r := 79) rfl ?_; refine gt_getI rfl rfl ?_; refine gt_putI rfl ?_; refine gt_aload_n (r := 79) rfl ?_; refine gt_aload_n (r := 79) rfl ?_; refine gt_getI rfl rfl ?_; refine gt_putI rfl ?_; refine gt_aload_n (r := 79) rfl ?_; refine gt_aload_n (r := 79) rfl ?_; refine gt_getI rfl rfl ?_; refine gt_putI rfl ?_; refine gt_aload_n (r := 79) rfl ?_; refine gt_aload_n (r := 79) rfl ?_; refine gt_getI rfl rfl ?_; refine gt_putI rfl ?_; refine gt_aload_n (r := 79) rfl ?_; refine gt_aload_n (r := 79) rfl ?_; refine gt_getR (r := 82) rfl rfl he65 ?_; refine gt_aload_n (r := 79) rfl ?_; refine gt_getR (r := 89) rfl rfl he67 ?_; refine gt_bipush qb_12 ?_; exact gt_z rfl rfl rfl rfl rfl) ⟨ho54, ho55, ho56, ho57, ho58, ho59, ho60, ho61, ho62, ho63, ho64, ho66⟩ ?_
  obtain ⟨hid, h⟩ := h
  refine g_callV (As := [.ref (82), .ref (89), .int (12)]) (id := 79) (st := []) kX12_copies l_12_208 (by decide +kernel) hid rfl (Nat.le_of_ble_eq_true rfl) (g_mono h (g_V_of (fun u7 h => ?_)))
  show g_Ex n t (d + 1) mX12_sets 54 [some (.ref (79)), none] [] u7 Q
  obtain ⟨ho50, h⟩ := h
  obtain ⟨he51, h⟩ := h
  obtain ⟨ho52, h⟩ := h
  obtain ⟨he53, h⟩ := h
  refine g_blk [(.aload_n 0, 1, 0, 0), (.aload_n 0, 1, 0, 0), (.getfield 26, 3, 12, 11), (.aload_n 0, 1, 0, 0), (.getfield 47, 3, 12, 18), (.bipush 50, 2, 0, 0)] 65 [some (.ref (79)), none] [.int (50), .ref (90), .ref (83), .ref (79)] u7 [q_id n 12 79, q_id n 12 79] (by decide +kernel) (by refine gt_aload_n (r := 79) rfl ?_; refine gt_aload_n (r := 79) rfl ?_; refine gt_getR (r := 83) rfl rfl he51 ?_; refine gt_aload_n (r := 79) rfl ?_; refine gt_getR (r := 90) rfl rfl he53 ?_; refine gt_bipush qb_50 ?_; exact gt_z rfl rfl rfl rfl rfl) ⟨ho50, ho52⟩ ?_
  obtain ⟨hid, h⟩ := h
  refine g_callV (As := [.ref (83), .ref (90), .int (50)]) (id := 79) (st := []) kX12_copies l_12_208 (by decide +kernel) hid rfl (Nat.le_of_ble_eq_true rfl) (g_mono h (g_V_of (fun u9 h => ?_)))
  show g_Ex n t (d + 1) mX12_sets 68 [some (.ref (79)), none] [] u9 Q
  obtain ⟨ho46, h⟩ := h
  obtain ⟨he47, h⟩ := h
  obtain ⟨ho48, h⟩ := h
  obtain ⟨he49, h⟩ := h
  refine g_blk [(.aload_n 0, 1, 0, 0), (.aload_n 0, 1, 0, 0), (.getfield 29, 3, 12, 12), (.aload_n 0, 1, 0, 0), (.getfield 50, 3, 12, 19), (.bipush 48, 2, 0, 0)] 79 [some (.ref (79)), none] [.int (48), .ref (91), .ref (84), .ref (79)] u9 [q_id n 12 79, q_id n 12 79] (by decide +kernel) (by refine gt_aload_n (r := 79) rfl ?_; refine gt_aload_n (r := 79) rfl ?_; refine gt_getR (r := 84) rfl rfl he47 ?_; refine gt_aload_n (r := 79) rfl ?_; refine gt_getR (r := 91) rfl rfl he49 ?_; refine gt_bipush qb_48 ?_; exact gt_z rfl rfl rfl rfl rfl) ⟨ho46, ho48⟩ ?_
  obtain ⟨hid, h⟩ := h
  refine g_callV (As := [.ref (84), .ref (91), .int (48)]) (id := 79) (st := []) kX12_copies l_12_208 (by decide +kernel) hid rfl (Nat.le_of_ble_eq_true rfl) (g_mono h (g_V_of (fun u11 h => ?_)))
  show g_Ex n t (d + 1) mX12_sets 82 [some (.ref (79)), none] [] u11 Q
  obtain ⟨ho42, h⟩ := h
  obtain ⟨he43, h⟩ := h
  obtain ⟨ho44, h⟩ := h
  obtain ⟨he45, h⟩ := h
  refine g_blk [(.aload_n 0, 1, 0, 0), (.aload_n 0, 1, 0, 0), (.getfield 32, 3, 12, 13), (.aload_n 0, 1, 0, 0), (.getfield 53, 3, 12, 20), (.bipush 20, 2, 0, 0)] 93 [some (.ref (79)), none] [.int (20), .ref (92), .ref (85), .ref (79)] u11 [q_id n 12 79, q_id n 12 79] (by decide +kernel) (by refine gt_aload_n (r := 79) rfl ?_; refine gt_aload_n (r := 79) rfl ?_; refine gt_getR (r := 85) rfl rfl he43 ?_; refine gt_aload_n (r := 79) rfl ?_; refine gt_getR (r := 92) rfl rfl he45 ?_; refine gt_bipush qb_20 ?_; exact gt_z rfl rfl rfl rfl rfl) ⟨ho42, ho44⟩ ?_
  obtain ⟨hid, h⟩ := h
  refine g_callV (As := [.ref (85), .ref (92), .int (20)]) (id := 79) (st := []) kX12_copies l_12_208 (by decide +kernel) hid rfl (Nat.le_of_ble_eq_true rfl) (g_mono h (g_V_of (fun u13 h => ?_)))
  show g_Ex n t (d + 1) mX12_sets 96 [some (.ref (79)), none] [] u13 Q
  obtain ⟨ho38, h⟩ := h
  obtain ⟨he39, h⟩ := h
  obtain ⟨ho40, h⟩ := h
  obtain ⟨he41, h⟩ := h
  refine g_blk [(.aload_n 0, 1, 0, 0), (.aload_n 0, 1, 0, 0), (.getfield 35, 3, 12, 14), (.aload_n 0, 1, 0, 0), (.getfield 56, 3, 12, 21), (.iconst 4, 1, 0, 0)] 106 [some (.ref (79)), none] [.int (4), .ref (93), .ref (86), .ref (79)] u13 [q_id n 12 79, q_id n 12 79] (by decide +kernel) (by refine gt_aload_n (r := 79) rfl ?_; refine gt_aload_n (r := 79) rfl ?_; refine gt_getR (r := 86) rfl rfl he39 ?_; refine gt_aload_n (r := 79) rfl ?_; refine gt_getR (r := 93) rfl rfl he41 ?_; refine gt_iconst qc_4 ?_; exact gt_z rfl rfl rfl rfl rfl) ⟨ho38, ho40⟩ ?_
  obtain ⟨hid, h⟩ := h
  refine g_callV (As := [.ref (86), .ref (93), .int (4)]) (id := 79) (st := []) kX12_copies l_12_208 (by decide +kernel) hid rfl (Nat.le_of_ble_eq_true rfl) (g_mono h (g_V_of (fun u15 h => ?_)))
  show g_Ex n t (d + 1) mX12_sets 109 [some (.ref (79)), none] [] u15 Q
  obtain ⟨ho34, h⟩ := h
  obtain ⟨he35, h⟩ := h
  obtain ⟨ho36, h⟩ := h
  obtain ⟨he37, h⟩ := h
  refine g_blk [(.aload_n 0, 1, 0, 0), (.aload_n 0, 1, 0, 0), (.getfield 38, 3, 12, 15), (.aload_n 0, 1, 0, 0), (.getfield 59, 3, 12, 22), (.bipush 18, 2, 0, 0)] 120 [some (.ref (79)), none] [.int (18), .ref (94), .ref (87), .ref (79)] u15 [q_id n 12 79, q_id n 12 79] (by decide +kernel) (by refine gt_aload_n (r := 79) rfl ?_; refine gt_aload_n (r := 79) rfl ?_; refine gt_getR (r := 87) rfl rfl he35 ?_; refine gt_aload_n (r := 79) rfl ?_; refine gt_getR (r := 94) rfl rfl he37 ?_; refine gt_bipush qb_18 ?_; exact gt_z rfl rfl rfl rfl rfl) ⟨ho34, ho36⟩ ?_
  obtain ⟨hid, h⟩ := h
  refine g_callV (As := [.ref (87), .ref (94), .int (18)]) (id := 79) (st := []) kX12_copies l_12_208 (by decide +kernel) hid rfl (Nat.le_of_ble_eq_true rfl) (g_mono h (g_V_of (fun u17 h => ?_)))
  show g_Ex n t (d + 1) mX12_sets 123 [some (.ref (79)), none] [] u17 Q
  obtain ⟨ho30, h⟩ := h
  obtain ⟨he31, h⟩ := h
  obtain ⟨ho32, h⟩ := h
  obtain ⟨he33, h⟩ := h
  refine g_blk [(.aload_n 0, 1, 0, 0), (.aload_n 0, 1, 0, 0), (.getfield 41, 3, 12, 16), (.aload_n 0, 1, 0, 0), (.getfield 62, 3, 12, 23), (.bipush 36, 2, 0, 0)] 134 [some (.ref (79)), none] [.int (36), .ref (95), .ref (88), .ref (79)] u17 [q_id n 12 79, q_id n 12 79] (by decide +kernel) (by refine gt_aload_n (r := 79) rfl ?_; refine gt_aload_n (r := 79) rfl ?_; refine gt_getR (r := 88) rfl rfl he31 ?_; refine gt_aload_n (r := 79) rfl ?_; refine gt_getR (r := 95) rfl rfl he33 ?_; refine gt_bipush qb_36 ?_; exact gt_z rfl rfl rfl rfl rfl) ⟨ho30, ho32⟩ ?_
  obtain ⟨hid, h⟩ := h
  refine g_callV (As := [.ref (88), .ref (95), .int (36)]) (id := 79) (st := []) kX12_copies l_12_208 (by decide +kernel) hid rfl (Nat.le_of_ble_eq_true rfl) (g_mono h (g_V_of (fun u19 h => ?_)))
  show g_Ex n t (d + 1) mX12_sets 137 [some (.ref (79)), none] [] u19 Q
  obtain ⟨ho25, h⟩ := h
  replace h := h _ rfl
  obtain ⟨ho26, h⟩ := h
  replace h := h _ rfl
  obtain ⟨ho27, h⟩ := h
  replace h := h _ rfl
  obtain ⟨ho28, h⟩ := h
  replace h := h _ rfl
  obtain ⟨ho29, h⟩ := h
  replace h := h _ rfl
  refine g_blk [(.aload_n 0, 1, 0, 0), (.iconst 0, 1, 0, 0), (.putfield 212, 3, 12, 40), (.aload_n 0, 1, 0, 0), (.iconst 0, 1, 0, 0), (.putfield 215, 3, 12, 55), (.aload_n 0, 1, 0, 0), (.iconst 0, 1, 0, 0), (.putfield 218, 3, 12, 45), (.aload_n 0, 1, 0, 0), (.iconst 0, 1, 0, 0), (.putfield 221, 3, 12, 66), (.aload_n 0, 1, 0, 0), (.iconst 0, 1, 0, 0), (.putfield 224, 3, 12, 46), (.iconst 0, 1, 0, 0), (.istore_n 1, 1, 0, 0)] 164 [some (.ref (79)), some (.int (0))] [] (g_wI (g_wI (g_wI (g_wI (g_wI u19 79 40 0) 79 55 0) 79 45 0) 79 66 0) 79 46 0) [q_id n 12 79, q_id n 12 79, q_id n 12 79, q_id n 12 79, q_id n 12 79] (by decide +kernel) (by refine gt_aload_n (r := 79) rfl ?_; refine gt_iconst qc_0 ?_; refine gt_putI rfl ?_; refine gt_aload_n (r := 79) rfl ?_; refine gt_iconst qc_0 ?_; refine gt_putI rfl ?_; refine gt_aload_n (r := 79) rfl ?_; refine gt_iconst qc_0 ?_; refine gt_putI rfl ?_; refine gt_aload_n (r := 79) rfl ?_; refine gt_iconst qc_0 ?_; refine gt_putI rfl ?_; refine gt_aload_n (r := 79) rfl ?_; refine gt_iconst qc_0 ?_; refine gt_putI rfl ?_; refine gt_iconst qc_0 ?_; refine gt_istore_n (L' := [some (.ref (79)), some (.int (0))]) rfl ?_; exact gt_z rfl rfl rfl rfl rfl) ⟨ho25, ho26, ho27, ho28, ho29⟩ ?_
  exact h
theorem gxX12_sets_164 {n : Nat} {t : Bool} {d : Nat} {x1 : Int32} {w : q_Mem} {Q : g_Po} (h : gvX12_sets_164 n t d x1 w Q) : g_Ex n t (d + 1) mX12_sets 164 [some (.ref (79)), some (.int (x1))] [] w Q := by
  unfold gvX12_sets_164 at h
  refine g_blk [(.iload_n 1, 1, 0, 0), (.bipush 63, 2, 0, 0)] 167 [some (.ref (79)), some (.int (x1))] [.int (63), .int (x1)] w [] (by decide +kernel) (by refine gt_iload_n (x := x1) rfl ?_; refine gt_bipush qb_63 ?_; exact gt_z rfl rfl rfl rfl rfl) trivial ?_
  refine g_icmp (cd := .ge) (off := 16) 183 (by decide +kernel) (by decide) (fun hc => ?_) (fun hc => ?_)
  · replace h := h.1 hc
    refine g_blk [(.iconst 0, 1, 0, 0), (.istore_n 1, 1, 0, 0)] 185 [some (.ref (79)), some (.int (0))] [] w [] (by decide +kernel) (by refine gt_iconst qc_0 ?_; refine gt_istore_n (L' := [some (.ref (79)), some (.int (0))]) rfl ?_; exact gt_z rfl rfl rfl rfl rfl) trivial ?_
    exact h
  · replace h := h.2 hc
    obtain ⟨ho69, h⟩ := h
    obtain ⟨he70, h⟩ := h
    obtain ⟨ho71, h⟩ := h
    obtain ⟨ho72, h⟩ := h
    replace h := h _ rfl
    refine g_blk [(.aload_n 0, 1, 0, 0), (.getfield 89, 3, 12, 50), (.iload_n 1, 1, 0, 0), (.iconst 0, 1, 0, 0), (.iastore, 1, 0, 0), (.iinc 1 1, 3, 0, 0), (.goto (-16), 3, 164, 0)] 164 [some (.ref (79)), some (.int (x1 + 1))] [] (g_wI w 104 (Int32.toNatClampNeg x1) 0) [q_id n 12 79, q_id n 14 104, vp_in x1 63] (by decide +kernel) (by refine gt_aload_n (r := 79) rfl ?_; refine gt_getR (r := 104) rfl rfl he70 ?_; refine gt_iload_n (x := x1) rfl ?_; refine gt_iconst qc_0 ?_; refine gt_iast ?_; refine gt_iinc (x := x1) (L' := [some (.ref (79)), some (.int (x1 + 1))]) rfl qc_1 rfl ?_; refine gt_goto ?_; exact gt_z rfl rfl rfl rfl rfl) ⟨ho69, ho71, ho72⟩ ?_
    exact h
theorem gxX12_sets_185 {n : Nat} {t : Bool} {d : Nat} {x1 : Int32} {w : q_Mem} {Q : g_Po} (h : gvX12_sets_185 n t d x1 w Q) : g_Ex n t (d + 1) mX12_sets 185 [some (.ref (79)), some (.int (x1))] [] w Q := by
  unfold gvX12_sets_185 at h
  obtain ⟨ho91, h⟩ := h
  refine g_blk [(.iload_n 1, 1, 0, 0), (.aload_n 0, 1, 0, 0), (.getfield 196, 3, 12, 30)] 190 [some (.ref (79)), some (.int (x1))] [.int (w.1 79 30), .int (x1)] w [q_id n 12 79] (by decide +kernel) (by refine gt_iload_n (x := x1) rfl ?_; refine gt_aload_n (r := 79) rfl ?_; refine gt_getI rfl rfl ?_; exact gt_z rfl rfl rfl rfl rfl) ho91 ?_
  refine g_icmp (cd := .ge) (off := 44) 234 (by decide +kernel) (by decide) (fun hc => ?_) (fun hc => ?_)
  · replace h := h.1 hc
    refine g_blk [(.iconst 0, 1, 0, 0), (.istore_n 1, 1, 0, 0)] 236 [some (.ref (79)), some (.int (0))] [] w [] (by decide +kernel) (by refine gt_iconst qc_0 ?_; refine gt_istore_n (L' := [some (.ref (79)), some (.int (0))]) rfl ?_; exact gt_z rfl rfl rfl rfl rfl) trivial ?_
    exact h
  · replace h := h.2 hc
    obtain ⟨ho75, h⟩ := h
    obtain ⟨he76, h⟩ := h
    obtain ⟨ho77, h⟩ := h
    obtain ⟨he78, h⟩ := h
    obtain ⟨ho79, h⟩ := h
    obtain ⟨ho80, h⟩ := h
    obtain ⟨ho81, h⟩ := h
    obtain ⟨ho82, h⟩ := h
    replace h := h _ rfl
    obtain ⟨ho83, h⟩ := h
    obtain ⟨he84, h⟩ := h
    obtain ⟨ho85, h⟩ := h
    obtain ⟨he86, h⟩ := h
    obtain ⟨ho87, h⟩ := h
    obtain ⟨ho88, h⟩ := h
    obtain ⟨ho89, h⟩ := h
    obtain ⟨ho90, h⟩ := h
    replace h := h _ rfl
    refine g_blk [(.aload_n 0, 1, 0, 0), (.getfield 89, 3, 12, 50), (.iconst 0, 1, 0, 0), (.iload_n 1, 1, 0, 0), (.iadd, 1, 0, 0), (.aload_n 0, 1, 0, 0), (.getfield 47, 3, 12, 18), (.iconst 5, 1, 0, 0), (.iload_n 1, 1, 0, 0), (.imul, 1, 0, 0), (.iconst 2, 1, 0, 0), (.iadd, 1, 0, 0), (.iaload, 1, 0, 0), (.iastore, 1, 0, 0), (.aload_n 0, 1, 0, 0), (.getfield 89, 3, 12, 50), (.bipush 10, 2, 0, 0), (.iload_n 1, 1, 0, 0), (.iadd, 1, 0, 0), (.aload_n 0, 1, 0, 0), (.getfield 47, 3, 12, 18), (.iconst 5, 1, 0, 0), (.iload_n 1, 1, 0, 0), (.imul, 1, 0, 0), (.iaload, 1, 0, 0), (.iastore, 1, 0, 0), (.iinc 1 1, 3, 0, 0), (.goto (-46), 3, 185, 0)] 185 [some (.ref (79)), some (.int (x1 + 1))] [] (g_wI (g_wI w 104 (Int32.toNatClampNeg (0 + x1)) (w.1 90 (Int32.toNatClampNeg ((5 * x1) + 2)))) 104 (Int32.toNatClampNeg (10 + x1)) ((g_wI w 104 (Int32.toNatClampNeg (0 + x1)) (w.1 90 (Int32.toNatClampNeg ((5 * x1) + 2)))).1 90 (Int32.toNatClampNeg (5 * x1)))) [q_id n 12 79, q_id n 12 79, q_id n 14 90, vp_in ((5 * x1) + 2) 50, q_id n 14 104, vp_in (0 + x1) 63, q_id n 12 79, q_id n 12 79, q_id n 14 90, vp_in (5 * x1) 50, q_id n 14 104, vp_in (10 + x1) 63] (by decide +kernel) (by refine gt_aload_n (r := 79) rfl ?_; refine gt_getR (r := 104) rfl rfl he76 ?_; refine gt_iconst qc_0 ?_; refine gt_iload_n (x := x1) rfl ?_; refine gt_iadd ?_; refine gt_aload_n (r := 79) rfl ?_; refine gt_getR (r := 90) rfl rfl he78 ?_; refine gt_iconst qc_5 ?_; refine gt_iload_n (x := x1) rfl ?_; refine gt_imul ?_; refine gt_iconst qc_2 ?_; refine gt_iadd ?_; refine gt_iald ?_; refine gt_iast ?_; refine gt_aload_n (r := 79) rfl ?_; refine gt_getR (r := 104) rfl rfl he84 ?_; refine gt_bipush qb_10 ?_; refine gt_iload_n (x := x1) rfl ?_; refine gt_iadd ?_; refine gt_aload_n (r := 79) rfl ?_; refine gt_getR (r := 90) rfl rfl he86 ?_; refine gt_iconst qc_5 ?_; refine gt_iload_n (x := x1) rfl ?_; refine gt_imul ?_; refine gt_iald ?_; refine gt_iast ?_; refine gt_iinc (x := x1) (L' := [some (.ref (79)), some (.int (x1 + 1))]) rfl qc_1 rfl ?_; refine gt_goto ?_; exact gt_z rfl rfl rfl rfl rfl) ⟨ho75, ho77, ho79, ho80, ho81, ho82, ho83, ho85, ho87, ho88, ho89, ho90⟩ ?_
    exact h
theorem gxX12_sets_236 {n : Nat} {t : Bool} {d : Nat} {x1 : Int32} {w : q_Mem} {Q : g_Po} (h : gvX12_sets_236 n t d x1 w Q) : g_Ex n t (d + 1) mX12_sets 236 [some (.ref (79)), some (.int (x1))] [] w Q := by
  unfold gvX12_sets_236 at h
  refine g_blk [(.iload_n 1, 1, 0, 0), (.iconst 4, 1, 0, 0)] 238 [some (.ref (79)), some (.int (x1))] [.int (4), .int (x1)] w [] (by decide +kernel) (by refine gt_iload_n (x := x1) rfl ?_; refine gt_iconst qc_4 ?_; exact gt_z rfl rfl rfl rfl rfl) trivial ?_
  refine g_icmp (cd := .ge) (off := 24) 262 (by decide +kernel) (by decide) (fun hc => ?_) (fun hc => ?_)
  · replace h := h.1 hc
    exact g_retV (by decide +kernel) rfl h
  · replace h := h.2 hc
    obtain ⟨ho97, h⟩ := h
    obtain ⟨he98, h⟩ := h
    refine g_blk [(.aload_n 0, 1, 0, 0), (.getfield 89, 3, 12, 50), (.bipush 50, 2, 0, 0), (.iload_n 1, 1, 0, 0), (.iadd, 1, 0, 0), (.aload_n 0, 1, 0, 0), (.iconst 0, 1, 0, 0), (.iload_n 1, 1, 0, 0)] 252 [some (.ref (79)), some (.int (x1))] [.int (x1), .int (0), .ref (79), .int (50 + x1), .ref (104)] w [q_id n 12 79] (by decide +kernel) (by refine gt_aload_n (r := 79) rfl ?_; refine gt_getR (r := 104) rfl rfl he98 ?_; refine gt_bipush qb_50 ?_; refine gt_iload_n (x := x1) rfl ?_; refine gt_iadd ?_; refine gt_aload_n (r := 79) rfl ?_; refine gt_iconst qc_0 ?_; refine gt_iload_n (x := x1) rfl ?_; exact gt_z rfl rfl rfl rfl rfl) ho97 ?_
    obtain ⟨hid, h⟩ := h
    refine g_callV (As := [.int (0), .int (x1)]) (id := 79) (st := [.int (50 + x1), .ref (104)]) kX12_lightOf l_12_227 (by decide +kernel) hid rfl (Nat.le_of_ble_eq_true rfl) (g_mono h (g_I_of (fun v92 u93 h => ?_)))
    show g_Ex n t (d + 1) mX12_sets 255 [some (.ref (79)), some (.int (x1))] [.int (v92), .int (50 + x1), .ref (104)] u93 Q
    obtain ⟨ho95, h⟩ := h
    obtain ⟨ho96, h⟩ := h
    replace h := h _ rfl
    refine g_blk [(.iastore, 1, 0, 0), (.iinc 1 1, 3, 0, 0), (.goto (-23), 3, 236, 0)] 236 [some (.ref (79)), some (.int (x1 + 1))] [] (g_wI u93 104 (Int32.toNatClampNeg (50 + x1)) v92) [q_id n 14 104, vp_in (50 + x1) 63] (by decide +kernel) (by refine gt_iast ?_; refine gt_iinc (x := x1) (L' := [some (.ref (79)), some (.int (x1 + 1))]) rfl qc_1 rfl ?_; refine gt_goto ?_; exact gt_z rfl rfl rfl rfl rfl) ⟨ho95, ho96⟩ ?_
    exact h
theorem geX12_sets {n : Nat} {t : Bool} {d : Nat}  {w : q_Mem} {Q : g_Po} (h : gvX12_sets_0 n t d  w Q) : g_Ev n t (d + 1) mX12_sets w [.ref (79)] Q := g_of (by decide +kernel) rfl (Nat.le_of_ble_eq_true rfl) (gxX12_sets_0 h)
