/-- the cells in the order in which they are made: their kind (a class of vwCl; 13 bytes, 14 ints, 15 longs, 16 booleans, 17 references) and their number of slots -/
def q_SH : List (Nat × Nat) := [(99, 0), (11, 19), (10, 7), (13, 600), (2, 20), (14, 6), (14, 6), (14, 10), (14, 10), (14, 10), (14, 10), (14, 10), (14, 10), (14, 48), (14, 20), (14, 4), (14, 6), (14, 6), (14, 6), (14, 36), (2, 20), (14, 6), (14, 6), (14, 10), (14, 10), (14, 10), (14, 10), (14, 10), (14, 10), (14, 48), (14, 20), (14, 4), (14, 6), (14, 6), (14, 6), (14, 36), (5, 4), (14, 150), (14, 7), (14, 40), (5, 4), (14, 150), (14, 7), (14, 40), (1, 7), (14, 10), (14, 10), (14, 10), (1, 7), (14, 10), (14, 10), (14, 10), (9, 7), (14, 150), (14, 150), (14, 150), (6, 1), (14, 59), (8, 2), (14, 1003), (17, 3), (8, 2), (14, 1003), (8, 2), (14, 1003), (8, 2), (14, 1003), (4, 3), (6, 1), (14, 59), (3, 4), (14, 10), (14, 4), (7, 4), (15, 6), (15, 64), (14, 6), (0, 4), (14, 21), (12, 67), (14, 2), (14, 600), (14, 12), (14, 50), (14, 48), (14, 20), (14, 4), (14, 18), (14, 36), (14, 12), (14, 50), (14, 48), (14, 20), (14, 4), (14, 18), (14, 36), (14, 150), (14, 150), (14, 150), (14, 150), (14, 150), (14, 7), (14, 150), (14, 150), (14, 63), (14, 63), (14, 1008), (14, 30), (14, 30), (14, 4), (14, 6), (14, 6), (14, 61), (16, 61), (14, 41), (14, 3216), (15, 1)]
def q_IR : List (List Bool) := [[true, false, false, false], [false, true, true, true, false, false, false], [false, true, true, false, true, true, true, true, true, true, false, true, true, true, false, true, true, true, false, true], [true, true, false, false], [true, false, false], [true, false, true, true], [true], [true, true, true, false], [true, false], [true, true, true, false, false, false, false], [true, false, false, false, false, false, false], [true, true, true, true, true, true, true, true, true, true, true, false, false, false, false, true, true, true, true], [false, true, false, false, false, false, false, false, false, true, true, true, true, true, true, true, true, true, true, true, true, true, true, true, false, false, false, false, false, false, false, false, false, false, true, true, true, true, true, false, false, true, true, true, false, false, false, false, false, false, true, true, true, true, true, false, true, true, true, true, true, false, true, false, false, true, false]]
/-- the text constants: class, place, text -/
def q_SC : List (String × Nat × String) := [("DuskDebts$Coast", 106, "creditor"), ("DuskDebts$Coast", 120, "debt"), ("DuskDebts$Reader", 74, "gold"), ("DuskDebts$Reader", 80, "rose"), ("DuskDebts$Reader", 82, "green"), ("DuskDebts$Reader", 84, "grey"), ("DuskDebts$Coast", 125, "dusk"), ("DuskDebts$Coast", 130, "ridge"), ("DuskDebts$Coast", 134, "lamp"), ("DuskDebts$Coast", 138, "wedding"), ("DuskDebts$Coast", 143, "fog"), ("DuskDebts$Coast", 147, "owes"), ("DuskDebts$Law", 73, "least"), ("DuskDebts$Law", 83, "most"), ("DuskDebts$Law", 97, "parts"), ("DuskDebts$Law", 99, "rate"), ("DuskDebts$Law", 101, "late"), ("DuskDebts$Law", 103, "dusk"), ("DuskDebts$Law", 105, "paid"), ("DuskDebts$Law", 107, "colour"), ("DuskDebts$Law", 109, "cell"), ("DuskDebts$Program", 42, "pay"), ("DuskDebts$Program", 61, "end"), ("DuskDebts$Program", 63, "lamp"), ("DuskDebts$Program", 69, "hand"), ("DuskDebts$Program", 74, "dusk"), ("DuskDebts$Program", 76, "again"), ("DuskDebtsModel", 264, "creditor"), ("DuskDebtsModel", 269, "wedding"), ("DuskDebtsModel", 252, "debt"), ("DuskDebtsModel", 260, "dusk"), ("DuskDebtsModel", 261, "ridge"), ("DuskDebtsModel", 262, "lamp"), ("DuskDebtsModel", 263, "fog"), ("DuskDebtsModel", 287, "owes"), ("DuskDebtsModel", 234, "gold"), ("DuskDebtsModel", 240, "rose"), ("DuskDebtsModel", 242, "green"), ("DuskDebtsModel", 244, "grey"), ("DuskDebtsModel", 334, "least"), ("DuskDebtsModel", 339, "most"), ("DuskDebtsModel", 322, "parts"), ("DuskDebtsModel", 324, "rate"), ("DuskDebtsModel", 326, "late"), ("DuskDebtsModel", 328, "paid"), ("DuskDebtsModel", 330, "colour"), ("DuskDebtsModel", 332, "cell"), ("DuskDebtsModel", 354, "pay"), ("DuskDebtsModel", 360, "end"), ("DuskDebtsModel", 362, "hand"), ("DuskDebtsModel", 364, "again")]
def q_SB : List (List Int32) := [[99, 114, 101, 100, 105, 116, 111, 114], [100, 101, 98, 116], [103, 111, 108, 100], [114, 111, 115, 101], [103, 114, 101, 101, 110], [103, 114, 101, 121], [100, 117, 115, 107], [114, 105, 100, 103, 101], [108, 97, 109, 112], [119, 101, 100, 100, 105, 110, 103], [102, 111, 103], [111, 119, 101, 115], [108, 101, 97, 115, 116], [109, 111, 115, 116], [112, 97, 114, 116, 115], [114, 97, 116, 101], [108, 97, 116, 101], [100, 117, 115, 107], [112, 97, 105, 100], [99, 111, 108, 111, 117, 114], [99, 101, 108, 108], [112, 97, 121], [101, 110, 100], [108, 97, 109, 112], [104, 97, 110, 100], [100, 117, 115, 107], [97, 103, 97, 105, 110], [99, 114, 101, 100, 105, 116, 111, 114], [119, 101, 100, 100, 105, 110, 103], [100, 101, 98, 116], [100, 117, 115, 107], [114, 105, 100, 103, 101], [108, 97, 109, 112], [102, 111, 103], [111, 119, 101, 115], [103, 111, 108, 100], [114, 111, 115, 101], [103, 114, 101, 101, 110], [103, 114, 101, 121], [108, 101, 97, 115, 116], [109, 111, 115, 116], [112, 97, 114, 116, 115], [114, 97, 116, 101], [108, 97, 116, 101], [112, 97, 105, 100], [99, 111, 108, 111, 117, 114], [99, 101, 108, 108], [112, 97, 121], [101, 110, 100], [104, 97, 110, 100], [97, 103, 97, 105, 110]]
def q_NF : List (String × Nat × String × String × String) := [("DuskDebts$Past", 27, "DuskDebts$Ledger", "row", "[I")]
def q_NM : List (String × Nat × MethodName) := [("DuskDebts", 9, ⟨"DuskDebts$Reader", "<init>", "()V"⟩), ("DuskDebts", 18, ⟨"DuskDebts$Coast", "<init>", "()V"⟩), ("DuskDebts", 38, ⟨"DuskDebts$Book", "<init>", "()V"⟩), ("DuskDebts", 48, ⟨"DuskDebts$Program", "<init>", "()V"⟩), ("DuskDebts", 55, ⟨"DuskDebts$Ledger", "<init>", "()V"⟩), ("DuskDebts", 62, ⟨"DuskDebts$Past", "<init>", "()V"⟩), ("DuskDebts", 73, ⟨"DuskDebts$Foresight", "<init>", "()V"⟩), ("DuskDebts$Foresight", 11, ⟨"DuskDebts$Ledger", "<init>", "()V"⟩), ("DuskDebts", 80, ⟨"DuskDebts$Ending", "<init>", "()V"⟩), ("DuskDebts", 87, ⟨"DuskDebts$Matching", "<init>", "()V"⟩), ("DuskDebts", 94, ⟨"DuskDebts$Auction", "<init>", "()V"⟩)]
def q_CA : List (String × String) := [("java/lang/IllegalArgumentException", "java/lang/IllegalArgumentException"), ("java/util/NoSuchElementException", "java/util/NoSuchElementException"), ("DuskDebts", "java/lang/Object"), ("DuskDebts$Reader", "java/lang/Object"), ("DuskDebts$Coast", "java/lang/Object"), ("DuskDebts$Law", "java/lang/Object"), ("DuskDebts$Book", "java/lang/Object"), ("DuskDebts$Program", "java/lang/Object"), ("DuskDebts$Ledger", "java/lang/Object"), ("DuskDebts$Past", "java/lang/Object"), ("DuskDebts$Foresight", "java/lang/Object"), ("DuskDebts$Ending", "java/lang/Object"), ("DuskDebts$Matching", "java/lang/Object"), ("DuskDebts$Auction", "java/lang/Object"), ("DuskDebtsModel", "java/lang/Object"), ("java/lang/IllegalArgumentException", "java/lang/Object"), ("java/util/NoSuchElementException", "java/lang/Object"), ("java/lang/Throwable", "java/lang/Object"), ("java/lang/String", "java/lang/Object")]
def q_DE : List MethodName := [⟨"java/lang/RuntimeException", "<init>", "()V"⟩, ⟨"java/lang/RuntimeException", "<init>", "(Ljava/lang/String;)V"⟩, ⟨"java/lang/Exception", "<init>", "()V"⟩, ⟨"java/lang/Exception", "<init>", "(Ljava/lang/String;)V"⟩, ⟨"java/lang/Throwable", "<init>", "()V"⟩, ⟨"java/lang/Throwable", "<init>", "(Ljava/lang/String;)V"⟩]
def q_AN : List (Nat × String) := [(13, "[B"), (14, "[I"), (15, "[J"), (16, "[Z"), (17, "[LDuskDebts$Past;")]
abbrev q_Mem : Type := (Nat → Nat → Int32) × (Nat → Nat → Int64) × (Nat → Nat → Nat → Nat)
/-- where things lie: the classes and slots, the array classes by kind, the address below the first cell, the text constants and their bytes -/
abbrev q_G : Type := va_G × (Nat → ClassId) × Nat × (Nat → Nat) × (Nat → Nat) × Option Nat
def q_sh (i : Nat) : Nat × Nat := q_SH.getD i (99, 0)
def q_ir (k j : Nat) : Bool := (q_IR.getD k []).getD j false
/-- a number of a cell stands for a reference (0: null), a return address for a text constant -/
def q_tv (G : q_G) : Value → Value
  | .ref i => if i = 0 then .null else .ref (G.2.2.1 + i)
  | .retAddr k => if k < 1000 then .ref (G.2.2.2.1 k) else if k < 2000 then .ref (G.2.2.2.2.1 (k - 1000)) else va_rf G.2.2.2.2.2
  | v => v
def q_rf (G : q_G) (i : Nat) : Option Nat := if i = 0 then none else some (G.2.2.1 + i)
theorem q_tv_ref (G : q_G) (i : Nat) : q_tv G (.ref i) = va_rf (q_rf G i) := by
  by_cases h : i = 0 <;> simp [q_tv, q_rf, va_rf, h]
theorem q_tv_pos (G : q_G) {i : Nat} (h : 0 < i) : q_tv G (.ref i) = .ref (G.2.2.1 + i) := by
  have : i ≠ 0 := by omega
  simp [q_tv, this]
theorem q_tv_cat (G : q_G) (v : Value) : (q_tv G v).category = v.category := by
  cases v with
  | ref a => by_cases h : a = 0 <;> simp [q_tv, Value.category, h]
  | retAddr k =>
    unfold q_tv
    dsimp only
    split
    · rfl
    · split
      · rfl
      · cases G.2.2.2.2.2 <;> rfl
  | _ => rfl
def q_fv (G : q_G) (w : q_Mem) (id k j : Nat) : Value := if q_ir k j then va_rf (q_rf G (w.2.2 k id j)) else .int (w.1 id j)
def q_arr (G : q_G) (w : q_Mem) (id k : Nat) : ((Nat → Int32) ⊕ (Nat → Int64) ⊕ (Nat → UInt32) ⊕ (Nat → UInt64) ⊕ (Nat → Option Nat)) :=
  if k = 15 then .inr (.inl (w.2.1 id)) else if k = 17 then .inr (.inr (.inr (.inr (fun j => q_rf G (w.2.2 17 id j))))) else .inl (w.1 id)
def q_cell (G : q_G) (w : q_Mem) (id : Nat) : va_E :=
  if (q_sh id).1 < 13 then .inr ((q_sh id).1, (List.range (q_sh id).2).map (q_fv G w id (q_sh id).1))
  else .inl (G.2.1 (q_sh id).1, (q_sh id).2, q_arr G w id (q_sh id).1)
def q_ws (G : q_G) (n : Nat) (w : q_Mem) : va_W := (List.range n).map (fun i => (G.2.2.1 + (i + 1), q_cell G w (i + 1)))
def q_A (G : q_G) : Nat → Prop := fun q => G.2.2.1 < q
def q_tys (G : q_G) : List (ClassId × FieldType) := [(G.2.1 13, .byte), (G.2.1 14, .int), (G.2.1 15, .long), (G.2.1 16, .boolean), (G.2.1 17, .object "DuskDebts$Past")]
theorem q_ws_get {G : q_G} {n : Nat} {w : q_Mem} {id : Nat} (h : 0 < id) (h2 : id ≤ n) : (q_ws G n w)[id - 1]? = some (G.2.2.1 + id, q_cell G w id) := by
  obtain ⟨k, rfl⟩ : ∃ k, id = k + 1 := ⟨id - 1, by omega⟩
  have hk : k < n := by omega
  simp [q_ws, hk]
theorem q_ws_set {G : q_G} {n : Nat} {w w' : q_Mem} {id : Nat} (h : 0 < id) (h2 : id ≤ n) (ho : ∀ j, j ≠ id → q_cell G w' j = q_cell G w j) {x : va_E} (hx : q_cell G w' id = x) :
    (q_ws G n w).set (id - 1) (G.2.2.1 + id, x) = q_ws G n w' := by
  subst hx
  obtain ⟨k, rfl⟩ : ∃ k, id = k + 1 := ⟨id - 1, by omega⟩
  have hk : k < n := by omega
  apply List.ext_getElem?
  intro i
  rw [List.getElem?_set]
  simp only [q_ws, List.length_map, List.length_range, Nat.add_sub_cancel, List.getElem?_map]
  by_cases hi : k = i
  · subst hi
    simp [hk]
  · simp only [hi, if_false]
    by_cases hin : i < n
    · simp only [List.getElem?_range hin, Option.map_some]
      rw [ho (i + 1) (by omega)]
    · have : n ≤ i := by omega
      simp [List.getElem?_eq_none (show (List.range n).length ≤ i by simpa using this)]
theorem q_D (G : q_G) (n : Nat) (w : q_Mem) : va_D (q_A G) (q_ws G n w) := by
  refine ⟨fun i j p q hi hj he => ?_, fun k q hk => ?_⟩
  · simp only [q_ws, List.getElem?_map, Option.map_eq_some_iff] at hi hj
    obtain ⟨a, ha, rfl⟩ := hi
    obtain ⟨b, hb, rfl⟩ := hj
    obtain ⟨h1, rfl⟩ := List.getElem?_eq_some_iff.mp ha
    obtain ⟨h2, rfl⟩ := List.getElem?_eq_some_iff.mp hb
    simp at he
    omega
  · simp only [q_ws, List.getElem?_map, Option.map_eq_some_iff] at hk
    obtain ⟨a, ha, rfl⟩ := hk
    show G.2.2.1 < G.2.2.1 + (a + 1)
    omega
/-- the heap holds the memory w in its first n cells -/
def q_hd (G : q_G) (n : Nat) (w : q_Mem) (H : Heap) : Prop := va_P G.1 vwCl (q_ws G n w) H
theorem q_cell_congr {G : q_G} {w w' : q_Mem} {j : Nat} (h1 : ∀ k, w'.1 j k = w.1 j k) (h2 : ∀ k, w'.2.1 j k = w.2.1 j k) (h3 : ∀ x k, w'.2.2 x j k = w.2.2 x j k) : q_cell G w' j = q_cell G w j := by
  have e1 : w'.1 j = w.1 j := funext h1
  have e2 : w'.2.1 j = w.2.1 j := funext h2
  have e3 : q_fv G w' j = q_fv G w j := by
    funext x k
    unfold q_fv
    rw [h1, h3]
  unfold q_cell q_arr
  rw [e1, e2, e3]
  simp only [h3]
def q_K (G : q_G) (U : State) : Prop := va_K G.1 vwCl (q_tys G) U ∧ (∀ (i : Nat) (q : String × Nat × String), q_SC[i]? = some q → vk_R q.1 q.2.1 q.2.2 (G.2.2.2.1 i) U) ∧
  (∀ q ∈ q_NF, va_Nw (.fieldLinkNest q.1 q.2.1 q.2.2.1 q.2.2.2.1 q.2.2.2.2 "DuskDebts") U) ∧ (∀ q ∈ q_NM, va_Nw (.methodLinkNest q.1 q.2.1 q.2.2 "DuskDebts") U) ∧
  (∀ q ∈ q_CA, va_Nw (.castable q.1 q.2) U) ∧ (∀ q ∈ q_DE, va_Nw (.declares q) U) ∧ ∀ q ∈ q_AN, U.vm.findClass q.2 = some (G.2.1 q.1)
def q_F (G : q_G) (U : State) (H : Heap) : Prop :=
  (∀ i : Nat, i < 51 → va_O "java/lang/String" (G.2.2.2.1 i) (q_A G) U H ∧ va_OF "java/lang/String" "coder" "B" (.int 0) (G.2.2.2.1 i) (q_A G) U H ∧ va_OF "java/lang/String" "value" "[B" (.ref (G.2.2.2.2.1 i)) (G.2.2.2.1 i) (q_A G) U H ∧ va_T .byte (G.2.2.2.2.1 i) ((q_SB.getD i []).length) (fun j => .int ((q_SB.getD i []).getD j 0)) (q_A G) U H) ∧
  va_Z "java/lang/String" "COMPACT_STRINGS" "Z" (.int 1) (q_A G) U H ∧ vx_Zq Bundle.tN "UNASSIGNED_STACK" Bundle.steD (q_A G) U H ∧ vx_Zq Bundle.tN "SUPPRESSED_SENTINEL" Bundle.listD (q_A G) U H ∧
  va_Z "jdk/internal/util/Preconditions" "SIOOBE_FORMATTER" "Ljava/util/function/BiFunction;" (va_rf G.2.2.2.2.2) (q_A G) U H
theorem q_K.warm {G : q_G} {s U : State} (hW : s.WarmedH U.vm) (h : q_K G s) : q_K G U := ⟨va_K.moved hW.alike h.1, fun i q hq => vk_R.warm hW (h.2.1 i q hq), fun q hq => va_Nw.warmF hW (h.2.2.1 q hq), fun q hq => va_Nw.warmM hW (h.2.2.2.1 q hq), fun q hq => va_Nw.warmC hW (h.2.2.2.2.1 q hq), fun q hq => va_Nw.warmD hW (h.2.2.2.2.2.1 q hq), fun q hq => by rw [hW.alike.findClass]; exact h.2.2.2.2.2.2 q hq⟩
theorem q_K.same {G : q_G} {u U : State} (hv : U.vm = u.vm) (h : q_K G u) : q_K G U := ⟨va_K.moved (by rw [hv]; exact Vm.Alike.refl _) h.1, fun i q hq => vk_R.same hv (h.2.1 i q hq), fun q hq => va_Nw.same rfl hv.symm (h.2.2.1 q hq), fun q hq => va_Nw.same rfl hv.symm (h.2.2.2.1 q hq), fun q hq => va_Nw.same rfl hv.symm (h.2.2.2.2.1 q hq), fun q hq => va_Nw.same rfl hv.symm (h.2.2.2.2.2.1 q hq), fun q hq => by rw [hv]; exact h.2.2.2.2.2.2 q hq⟩
theorem q_F.moved {G : q_G} {u U : State} {H : Heap} (hvm : u.vm.Alike U.vm) (h : q_F G u H) : q_F G U H :=
  ⟨fun i hi => ⟨(h.1 i hi).1.moved hvm, (h.1 i hi).2.1.moved hvm, (h.1 i hi).2.2.1.moved hvm, (h.1 i hi).2.2.2.moved hvm⟩, h.2.1.moved hvm, vx_Zq.moved hvm h.2.2.1, vx_Zq.moved hvm h.2.2.2.1, h.2.2.2.2.moved hvm⟩
theorem q_F.kept {G : q_G} {U : State} {H H1 : Heap} (h : q_F G U H) (hq : ∀ a : Nat, a < H.size → ¬ q_A G a → H1[a]? = H[a]?) : q_F G U H1 :=
  ⟨fun i hi => ⟨(h.1 i hi).1.kept hq, (h.1 i hi).2.1.kept hq, (h.1 i hi).2.2.1.kept hq, (h.1 i hi).2.2.2.kept hq⟩, h.2.1.kept hq, vx_Zq.kept h.2.2.1 hq, vx_Zq.kept h.2.2.2.1 hq, h.2.2.2.2.kept hq⟩
/-- the words that all methods share -/
def q_TB : List Cond := lw_tbl.filter goodWord
theorem q_good {y : MethodName} {cc : ByteArray} {nL : Nat} {ret : Option FieldType} (h : Cond.code y cc nL ret ∈ q_TB) : GoodIn q_TB (Cond.code y cc nL ret :: q_TB) := by
  intro w hw
  have h1 : w ∈ q_TB := by
    rcases List.mem_cons.mp hw with rfl | hw
    · exact h
    · exact hw
  exact ⟨h1, good_of_word (List.mem_filter.mp h1).2⟩
/-- what is known of the locals -/
def q_lv (G : q_G) (ls : Array Slot) (nL : Nat) (L : List (Option Value)) : Prop := ls.size = nL ∧ lv_wf ls ∧ ∀ (i : Nat) (v : Value), L[i]? = some (some v) → ls[i]? = some (.val (q_tv G v))
def q_as (G : q_G) (L : List (Option Value)) : List (Nat × Value) := (List.range L.length).filterMap (fun i => (L.getD i none).map (fun v => (i, q_tv G v)))
theorem q_as_mem {G : q_G} {L : List (Option Value)} {i : Nat} {v : Value} (h : L[i]? = some (some v)) : (i, q_tv G v) ∈ q_as G L := by
  have hi : i < L.length := (List.getElem?_eq_some_iff.mp h).1
  refine List.mem_filterMap.mpr ⟨i, List.mem_range.mpr hi, ?_⟩
  simp [List.getD_eq_getElem?_getD, h]
theorem q_as_of {G : q_G} {L : List (Option Value)} {q : Nat × Value} (h : q ∈ q_as G L) : ∃ v, L[q.1]? = some (some v) ∧ q.2 = q_tv G v := by
  obtain ⟨i, hi, hq⟩ := List.mem_filterMap.mp h
  simp only [Option.map_eq_some_iff] at hq
  obtain ⟨v, hv, rfl⟩ := hq
  refine ⟨v, ?_, rfl⟩
  rw [List.getD_eq_getElem?_getD] at hv
  have hi : i < L.length := List.mem_range.mp hi
  simp [hi] at hv ⊢
  exact hv
theorem q_lv.has {G : q_G} {ls : Array Slot} {nL : Nat} {L : List (Option Value)} (h : q_lv G ls nL L) : lv_has ls nL (q_as G L) :=
  ⟨h.1, h.2.1, fun q hq => by obtain ⟨v, h1, h2⟩ := q_as_of hq; rw [h2]; exact h.2.2 _ _ h1⟩
def q_isL : Option Value → Bool
  | some (.long _) => true
  | some (.double _) => true
  | _ => false
/-- a store: the second half of a long that it breaks is forgotten, and the place behind a long -/
def q_set (L : List (Option Value)) (i : Nat) (v : Value) : List (Option Value) :=
  ((if i = 0 then L else if q_isL (L.getD (i - 1) none) then L.set (i - 1) none else L).set i (some v))
def q_setL (L : List (Option Value)) (i : Nat) (v : Value) : List (Option Value) := (q_set L i v).set (i + 1) none
theorem q_isL_cat {v : Value} (h : q_isL (some v) = false) : v.category ≠ 2 := by
  cases v <;> simp_all [q_isL, Value.category]
theorem q_lv.st1 {G : q_G} {ls' : Array Slot} {nL : Nat} {L : List (Option Value)} {i : Nat} {v : Value}
    (h : lv_has ls' nL ((i, q_tv G v) :: (q_as G L).filter (fun q => !(q.1 == i) && !(q.1 + 1 == i && q.2.category == 2)))) : q_lv G ls' nL (q_set L i v) := by
  refine ⟨h.1, h.2.1, fun j u hj => ?_⟩
  unfold q_set at hj
  rw [List.getElem?_set] at hj
  by_cases hij : i = j
  · subst hij
    rw [if_pos rfl] at hj
    rw [Option.ite_none_right_eq_some] at hj
    obtain ⟨-, hj⟩ := hj
    cases hj
    exact h.2.2 (i, q_tv G v) (List.mem_cons_self)
  · rw [if_neg hij] at hj
    have key : L[j]? = some (some u) ∧ ¬ (j + 1 = i ∧ u.category = 2) := by
      by_cases h0 : i = 0
      · rw [if_pos h0] at hj
        exact ⟨hj, fun hh => by omega⟩
      · rw [if_neg h0] at hj
        by_cases hL : q_isL (L.getD (i - 1) none) = true
        · rw [if_pos hL, List.getElem?_set] at hj
          by_cases hj1 : i - 1 = j
          · rw [if_pos hj1] at hj
            split at hj <;> cases hj
          · rw [if_neg hj1] at hj
            exact ⟨hj, fun hh => by omega⟩
        · rw [if_neg hL] at hj
          refine ⟨hj, fun hh => ?_⟩
          have e1 : j = i - 1 := by omega
          subst e1
          have e2 : L.getD (i - 1) none = some u := by rw [List.getD_eq_getElem?_getD, hj]; rfl
          rw [e2] at hL
          exact q_isL_cat (by simpa using hL) hh.2
    refine h.2.2 (j, q_tv G u) (List.mem_cons_of_mem _ (List.mem_filter.mpr ⟨q_as_mem key.1, ?_⟩))
    have k2 := key.2
    have hji : ¬ j = i := fun e => hij e.symm
    simp only [q_tv_cat, Bool.and_eq_true, Bool.not_eq_true', beq_eq_false_iff_ne, ne_eq, hji, not_false_eq_true, true_and]
    rw [Bool.and_eq_false_iff]
    by_cases a1 : j + 1 = i
    · right
      simpa using fun e => k2 ⟨a1, e⟩
    · left
      simpa using a1
theorem q_lv.st2 {G : q_G} {ls' : Array Slot} {nL : Nat} {L : List (Option Value)} {i : Nat} {v : Value}
    (h : lv_has ls' nL ((i, q_tv G v) :: (q_as G L).filter (fun q => !(q.1 == i) && (!(q.1 == i + 1) && !(q.1 + 1 == i && q.2.category == 2))))) : q_lv G ls' nL (q_setL L i v) := by
  have h2 : q_lv G ls' nL (q_setL L i v) := by
    refine ⟨h.1, h.2.1, fun j u hj => ?_⟩
    unfold q_setL at hj
    rw [List.getElem?_set] at hj
    by_cases hj1 : i + 1 = j
    · rw [if_pos hj1] at hj
      split at hj <;> cases hj
    · rw [if_neg hj1] at hj
      unfold q_set at hj
      rw [List.getElem?_set] at hj
      by_cases hij : i = j
      · subst hij
        rw [if_pos rfl] at hj
        rw [Option.ite_none_right_eq_some] at hj
        obtain ⟨-, hj⟩ := hj
        cases hj
        exact h.2.2 (i, q_tv G v) (List.mem_cons_self)
      · rw [if_neg hij] at hj
        have key : L[j]? = some (some u) ∧ ¬ (j + 1 = i ∧ u.category = 2) := by
          by_cases h0 : i = 0
          · rw [if_pos h0] at hj
            exact ⟨hj, fun hh => by omega⟩
          · rw [if_neg h0] at hj
            by_cases hL : q_isL (L.getD (i - 1) none) = true
            · rw [if_pos hL, List.getElem?_set] at hj
              by_cases hj1 : i - 1 = j
              · rw [if_pos hj1] at hj
                split at hj <;> cases hj
              · rw [if_neg hj1] at hj
                exact ⟨hj, fun hh => by omega⟩
            · rw [if_neg hL] at hj
              refine ⟨hj, fun hh => ?_⟩
              have e1 : j = i - 1 := by omega
              subst e1
              have e2 : L.getD (i - 1) none = some u := by rw [List.getD_eq_getElem?_getD, hj]; rfl
              rw [e2] at hL
              exact q_isL_cat (by simpa using hL) hh.2
        refine h.2.2 (j, q_tv G u) (List.mem_cons_of_mem _ (List.mem_filter.mpr ⟨q_as_mem key.1, ?_⟩))
        have k2 := key.2
        have hji : ¬ j = i := fun e => hij e.symm
        have hjj : ¬ j = i + 1 := fun e => hj1 e.symm
        simp only [q_tv_cat, Bool.and_eq_true, Bool.not_eq_true', beq_eq_false_iff_ne, ne_eq, hji, hjj, not_false_eq_true, true_and]
        rw [Bool.and_eq_false_iff]
        by_cases a1 : j + 1 = i
        · right
          simpa using fun e => k2 ⟨a1, e⟩
        · left
          simpa using a1
  exact h2
