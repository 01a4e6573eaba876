def q_ON : List String := ["DuskDebts$Auction", "DuskDebts$Book", "DuskDebts$Coast", "DuskDebts$Ending", "DuskDebts$Foresight", "DuskDebts$Law", "DuskDebts$Ledger", "DuskDebts$Matching", "DuskDebts$Past", "DuskDebts$Program", "DuskDebts$Reader", "DuskDebts", "DuskDebtsModel", "DuskDebtsLaw", "java/lang/Integer", "java/lang/Long", "java/lang/Math", "java/lang/String", "java/lang/StringLatin1", "java/util/Arrays", "java/lang/StringUTF16", "jdk/internal/util/Preconditions"]
def q_CN : List Int32 := [1431655765, 858993459, 252645135, 2147483647, 1103515245, 2147483647, 1000000, 1103515245]
def q_CL : List Int64 := [-1, 6148914691236517205, 3689348814741910323, 1085102592571150095, 16, 2]
abbrev q_RI : Type := Instr × Nat × Nat × Nat
abbrev q_Cf : Type := Nat × List (Option Value) × List Value × q_Mem
def q_up {α : Type} (f : Nat → Nat → α) (a k : Nat) (v : α) : Nat → Nat → α := fun i j => if i = a then (if j = k then v else f i j) else f i j
def q_upR (f : Nat → Nat → Nat → Nat) (x a k : Nat) (v : Nat) : Nat → Nat → Nat → Nat := fun y i j => if y = x then (if i = a then (if j = k then v else f y i j) else f y i j) else f y i j
def q_own (o : Nat) : String := q_ON.getD o ""
/-- what stays as it is while a frame runs -/
def q_Cx (G : q_G) (p : Program) (l : Launch) (s : State) (m : MethodId) (args : Array Value) (c : Code) (o : Nat) (cc : ByteArray) (nL : Nat) : Prop :=
  p.tables.exec = Jvm.exec ∧ c.code = cc ∧ c.maxLocals = nL ∧ s.vm.findClass (q_own o) = some m.cls ∧ (∀ w ∈ q_TB, w.before args s = true) ∧ q_K G s ∧ q_F G s s.heap ∧ l.stackTraces = false
/-- the frame at pc with the known locals L, the stack st and the memory w comes to Z; a, b: how many cells and slots it may still take -/
def q_Go (G : q_G) (p : Program) (l : Launch) (e : Env) (R : Room) (s : State) (m : MethodId) (args : Array Value) (below : List Frame) (meth : Method) (c : Code) (Z : State → Prop) (nL n : Nat) (t : Bool) (a b : Nat) (cf : q_Cf) : Prop :=
  ∀ (H : Heap) (locs : List Loc) (cells slots : Nat) (ls : Array Slot), q_hd G n cf.2.2.2 H → (t = true → s.heap.size + cells = G.2.2.1 + n + 1) → va_S (q_A G) s.heap H locs → q_lv G ls nL cf.2.1 → cells + a ≤ R.cells → slots + b ≤ R.slots →
    W p l e R s m args below meth c H locs cells slots Z (F0 m cf.1 ls (cf.2.2.1.map (q_tv G)))
def q_v (L : List (Option Value)) (i : Nat) : Value := (L.getD i none).getD .null
def q_kI : Option Value → List Prop
  | some (.int _) => []
  | _ => [False]
def q_kJ : Option Value → List Prop
  | some (.long _) => []
  | _ => [False]
def q_kR : Option Value → List Prop
  | some (.ref _) => []
  | some (.retAddr _) => []
  | _ => [False]
def q_all : List Prop → Prop
  | [] => True
  | [x] => x
  | x :: y :: r => x ∧ q_all (y :: r)
theorem q_all_cons {x : Prop} {r : List Prop} (h : q_all (x :: r)) : x ∧ q_all r := by
  cases r with
  | nil => exact ⟨h, trivial⟩
  | cons y r => exact h
theorem q_all_app {x y : List Prop} (h : q_all (x ++ y)) : q_all x ∧ q_all y := by
  induction x with
  | nil => exact ⟨trivial, h⟩
  | cons z x ih =>
    obtain ⟨h1, h2⟩ := q_all_cons (r := x ++ y) h
    obtain ⟨h3, h4⟩ := ih h2
    refine ⟨?_, h4⟩
    cases x with
    | nil => exact h1
    | cons u x => exact ⟨h1, h3⟩
abbrev q_bad (cf : q_Cf) : q_Cf × List Prop := (cf, [False])
def q_ld (i len : Nat) (k : Option Value → List Prop) : q_Cf → q_Cf × List Prop := fun (pc, L, st, w) => ((pc + len, L, q_v L i :: st, w), k (L.getD i none))
def q_pu (len : Nat) (v : Value) : q_Cf → q_Cf × List Prop := fun (pc, L, st, w) => ((pc + len, L, v :: st, w), [])
def q_sti (i len : Nat) : q_Cf → q_Cf × List Prop := fun (pc, L, st, w) => match st with
  | .int x :: r => ((pc + len, q_set L i (.int x), r, w), [])
  | _ => q_bad (pc, L, st, w)
def q_stj (i len : Nat) : q_Cf → q_Cf × List Prop := fun (pc, L, st, w) => match st with
  | .long x :: r => ((pc + len, q_setL L i (.long x), r, w), [])
  | _ => q_bad (pc, L, st, w)
def q_sta (i len : Nat) : q_Cf → q_Cf × List Prop := fun (pc, L, st, w) => match st with
  | .ref x :: r => ((pc + len, q_set L i (.ref x), r, w), [])
  | _ => q_bad (pc, L, st, w)
def q_inc (i : Nat) (k : Int) : q_Cf → q_Cf × List Prop := fun (pc, L, st, w) => match L.getD i none with
  | some (.int x) => ((pc + 3, q_set L i (.int (x + Int32.ofInt k)), st, w), [])
  | _ => q_bad (pc, L, st, w)
def q_ii (f : Int32 → Int32 → Int32) (d : Int32 → Int32 → List Prop) : q_Cf → q_Cf × List Prop := fun (pc, L, st, w) => match st with
  | .int y :: .int x :: r => ((pc + 1, L, .int (f x y) :: r, w), d x y)
  | _ => q_bad (pc, L, st, w)
def q_jj (f : Int64 → Int64 → Int64) (d : Int64 → Int64 → List Prop) : q_Cf → q_Cf × List Prop := fun (pc, L, st, w) => match st with
  | .long y :: .long x :: r => ((pc + 1, L, .long (f x y) :: r, w), d x y)
  | _ => q_bad (pc, L, st, w)
def q_lcmp : q_Cf → q_Cf × List Prop := fun (pc, L, st, w) => match st with
  | .long y :: .long x :: r => ((pc + 1, L, .int (lg_cmp x y) :: r, w), [])
  | _ => q_bad (pc, L, st, w)
def q_lsh : q_Cf → q_Cf × List Prop := fun (pc, L, st, w) => match st with
  | .int y :: .long x :: r => ((pc + 1, L, .long (x <<< (y.toInt64 &&& 63)) :: r, w), [])
  | _ => q_bad (pc, L, st, w)
def q_i1 (f : Int32 → Int32) : q_Cf → q_Cf × List Prop := fun (pc, L, st, w) => match st with
  | .int x :: r => ((pc + 1, L, .int (f x) :: r, w), [])
  | _ => q_bad (pc, L, st, w)
def q_i2l : q_Cf → q_Cf × List Prop := fun (pc, L, st, w) => match st with
  | .int x :: r => ((pc + 1, L, .long x.toInt64 :: r, w), [])
  | _ => q_bad (pc, L, st, w)
def q_l2i : q_Cf → q_Cf × List Prop := fun (pc, L, st, w) => match st with
  | .long x :: r => ((pc + 1, L, .int x.toInt32 :: r, w), [])
  | _ => q_bad (pc, L, st, w)
def q_dup : q_Cf → q_Cf × List Prop := fun (pc, L, st, w) => match st with
  | .int x :: r => ((pc + 1, L, .int x :: .int x :: r, w), [])
  | .ref x :: r => ((pc + 1, L, .ref x :: .ref x :: r, w), [])
  | _ => q_bad (pc, L, st, w)
def q_dup2 : q_Cf → q_Cf × List Prop := fun (pc, L, st, w) => match st with
  | .int x :: .ref y :: r => ((pc + 1, L, .int x :: .ref y :: .int x :: .ref y :: r, w), [])
  | _ => q_bad (pc, L, st, w)
def q_pop : q_Cf → q_Cf × List Prop := fun (pc, L, st, w) => match st with
  | .int _ :: r => ((pc + 1, L, r, w), [])
  | _ => q_bad (pc, L, st, w)
def q_cat1 : Value → Bool
  | .int _ => true
  | .ref _ => true
  | _ => false
/-- the cell id is one of the n, of the kind x -/
def q_id (n x id : Nat) : Prop := (0 < id ∧ id ≤ n) ∧ (q_sh id).1 = x
def q_get (n x k : Nat) : q_Cf → q_Cf × List Prop := fun (pc, L, st, w) => match st with
  | .ref id :: r => if q_ir x k then ((pc + 3, L, .ref (w.2.2 x id k) :: r, w), [q_id n x id]) else ((pc + 3, L, .int (w.1 id k) :: r, w), [q_id n x id])
  | _ => q_bad (pc, L, st, w)
def q_put (n x k : Nat) : q_Cf → q_Cf × List Prop := fun (pc, L, st, w) => match st with
  | .int v :: .ref id :: r => if q_ir x k then q_bad (pc, L, st, w) else ((pc + 3, L, r, (q_up w.1 id k v, w.2)), [q_id n x id])
  | .ref v :: .ref id :: r => if q_ir x k then ((pc + 3, L, r, (w.1, w.2.1, q_upR w.2.2 x id k v)), [q_id n x id]) else q_bad (pc, L, st, w)
  | _ => q_bad (pc, L, st, w)
def q_ild (n x : Nat) : q_Cf → q_Cf × List Prop := fun (pc, L, st, w) => match st with
  | .int i :: .ref id :: r => ((pc + 1, L, .int (w.1 id i.toNatClampNeg) :: r, w), [q_id n x id, vp_in i (q_sh id).2])
  | .int i :: .retAddr j :: r => if x = 13 then ((pc + 1, L, .int ((q_SB.getD (j - 1000) []).getD i.toNatClampNeg 0) :: r, w), [1000 ≤ j ∧ j < 1051, vp_in i (q_SB.getD (j - 1000) []).length]) else q_bad (pc, L, st, w)
  | _ => q_bad (pc, L, st, w)
def q_ist (n x : Nat) (f : Int32 → Int32) : q_Cf → q_Cf × List Prop := fun (pc, L, st, w) => match st with
  | .int v :: .int i :: .ref id :: r => ((pc + 1, L, r, (q_up w.1 id i.toNatClampNeg (f v), w.2)), [q_id n x id, vp_in i (q_sh id).2])
  | _ => q_bad (pc, L, st, w)
def q_jld (n : Nat) : q_Cf → q_Cf × List Prop := fun (pc, L, st, w) => match st with
  | .int i :: .ref id :: r => ((pc + 1, L, .long (w.2.1 id i.toNatClampNeg) :: r, w), [q_id n 15 id, vp_in i (q_sh id).2])
  | _ => q_bad (pc, L, st, w)
def q_jst (n : Nat) : q_Cf → q_Cf × List Prop := fun (pc, L, st, w) => match st with
  | .long v :: .int i :: .ref id :: r => ((pc + 1, L, r, (w.1, q_up w.2.1 id i.toNatClampNeg v, w.2.2)), [q_id n 15 id, vp_in i (q_sh id).2])
  | _ => q_bad (pc, L, st, w)
def q_rld (n : Nat) : q_Cf → q_Cf × List Prop := fun (pc, L, st, w) => match st with
  | .int i :: .ref id :: r => ((pc + 1, L, .ref (w.2.2 17 id i.toNatClampNeg) :: r, w), [q_id n 17 id, vp_in i (q_sh id).2])
  | _ => q_bad (pc, L, st, w)
def q_len (n : Nat) : q_Cf → q_Cf × List Prop := fun (pc, L, st, w) => match st with
  | .ref id :: r => ((pc + 1, L, .int (Int32.ofNat (q_sh id).2) :: r, w), [(0 < id ∧ id ≤ n) ∧ 13 ≤ (q_sh id).1 ∧ (q_sh id).1 < 18])
  | .retAddr j :: r => ((pc + 1, L, .int (Int32.ofNat (q_SB.getD (j - 1000) []).length) :: r, w), [1000 ≤ j ∧ j < 1051])
  | _ => q_bad (pc, L, st, w)
def q_lus : q_Cf → q_Cf × List Prop := fun (pc, L, st, w) => match st with
  | .int y :: .long x :: r => ((pc + 1, L, .long (x.toUInt64 >>> (y.toInt64.toUInt64 &&& Int64.toUInt64 63)).toInt64 :: r, w), [])
  | _ => q_bad (pc, L, st, w)
/-- a text's bytes (0) or its coder (1) -/
def q_gtx (k : Nat) : q_Cf → q_Cf × List Prop := fun (pc, L, st, w) => match st with
  | .retAddr j :: r => if k = 0 then ((pc + 3, L, .retAddr (1000 + j) :: r, w), [j < 51]) else ((pc + 3, L, .int 0 :: r, w), [j < 51])
  | _ => q_bad (pc, L, st, w)
def q_fg (k : Nat) : q_Cf → q_Cf × List Prop := fun (pc, L, st, w) => ((pc, L.set k none, st, w), [])
def q_jp (k : Nat) : q_Cf → q_Cf × List Prop := fun (_, L, st, w) => ((k, L, st, w), [])
/-- one instruction that is no branch, call, making or end; of getfield, putfield, baload, bastore the third number is the kind, of fields the fourth the place; ldc: the third 1, the fourth the text; a nop of length 0 forgets a local -/
def q_stp (n : Nat) (i : q_RI) (cf : q_Cf) : q_Cf × List Prop := match i.1 with
  | .nop => q_fg i.2.2.1 cf
  | .goto _ => q_jp i.2.2.1 cf
  | .iconst k => q_pu 1 (.int (Int32.ofInt k)) cf
  | .bipush k => q_pu 2 (.int (Int8.ofInt k).toInt32) cf
  | .sipush k => q_pu 3 (.int (Int16.ofInt k).toInt32) cf
  | .lconst k => q_pu 1 (.long (Int64.ofNat k)) cf
  | .ldc _ => if i.2.2.1 = 1 then q_pu 2 (.retAddr i.2.2.2) cf else q_pu 2 (.int (q_CN.getD i.2.2.2 0)) cf
  | .ldc_w _ => if i.2.2.1 = 1 then q_pu 3 (.retAddr i.2.2.2) cf else q_pu 3 (.int (q_CN.getD i.2.2.2 0)) cf
  | .ldc2_w _ => q_pu 3 (.long (q_CL.getD i.2.2.2 0)) cf
  | .iload k => q_ld k 2 q_kI cf
  | .iload_n k => q_ld k 1 q_kI cf
  | .lload k => q_ld k 2 q_kJ cf
  | .lload_n k => q_ld k 1 q_kJ cf
  | .aload k => q_ld k 2 q_kR cf
  | .aload_n k => q_ld k 1 q_kR cf
  | .istore k => q_sti k 2 cf
  | .istore_n k => q_sti k 1 cf
  | .lstore k => q_stj k 2 cf
  | .lstore_n k => q_stj k 1 cf
  | .astore k => q_sta k 2 cf
  | .astore_n k => q_sta k 1 cf
  | .iinc k d => q_inc k d cf
  | .iadd => q_ii (fun x y => x + y) (fun _ _ => []) cf
  | .isub => q_ii (fun x y => x - y) (fun _ _ => []) cf
  | .imul => q_ii (fun x y => x * y) (fun _ _ => []) cf
  | .idiv => q_ii (fun x y => x / y) (fun _ y => [¬ y = 0]) cf
  | .irem => q_ii (fun x y => x - x / y * y) (fun _ y => [¬ y = 0]) cf
  | .iand => q_ii (fun x y => x &&& y) (fun _ _ => []) cf
  | .ior => q_ii (fun x y => x ||| y) (fun _ _ => []) cf
  | .ixor => q_ii (fun x y => x ^^^ y) (fun _ _ => []) cf
  | .ishl => q_ii (fun x y => x <<< (y &&& 31)) (fun _ _ => []) cf
  | .ishr => q_ii (fun x y => x >>> (y &&& 31)) (fun _ _ => []) cf
  | .iushr => q_ii (fun x y => (x.toUInt32 >>> (y.toUInt32 &&& Int32.toUInt32 31)).toInt32) (fun _ _ => []) cf
  | .ladd => q_jj (fun x y => x + y) (fun _ _ => []) cf
  | .lsub => q_jj (fun x y => x - y) (fun _ _ => []) cf
  | .lmul => q_jj (fun x y => x * y) (fun _ _ => []) cf
  | .ldiv => q_jj (fun x y => x / y) (fun _ y => [¬ y = 0]) cf
  | .lrem => q_jj (fun x y => x - x / y * y) (fun _ y => [¬ y = 0]) cf
  | .land => q_jj (fun x y => x &&& y) (fun _ _ => []) cf
  | .lor => q_jj (fun x y => x ||| y) (fun _ _ => []) cf
  | .lxor => q_jj (fun x y => x ^^^ y) (fun _ _ => []) cf
  | .lcmp => q_lcmp cf
  | .lshl => q_lsh cf
  | .ineg => q_i1 (fun x => -x) cf
  | .i2b => q_i1 (fun x => x.toInt8.toInt32) cf
  | .i2l => q_i2l cf
  | .l2i => q_l2i cf
  | .dup => q_dup cf
  | .dup2 => q_dup2 cf
  | .pop => q_pop cf
  | .getfield _ => if i.2.2.1 = 50 then q_gtx i.2.2.2 cf else q_get n i.2.2.1 i.2.2.2 cf
  | .getstatic _ => if i.2.2.1 = 0 then q_pu 3 (.int 1) cf else q_pu 3 (.retAddr 2000) cf
  | .lushr => q_lus cf
  | .i2c => q_i1 (fun x => (x.toUInt32 % 65536).toInt32) cf
  | .putfield _ => q_put n i.2.2.1 i.2.2.2 cf
  | .iaload => q_ild n 14 cf
  | .baload => q_ild n i.2.2.1 cf
  | .iastore => q_ist n 14 (fun v => v) cf
  | .bastore => q_ist n i.2.2.1 (fun v => vp_nar (if i.2.2.1 = 13 then .byte else .boolean) v) cf
  | .laload => q_jld n cf
  | .lastore => q_jst n cf
  | .aaload => q_rld n cf
  | .arraylength => q_len n cf
  | _ => q_bad cf
