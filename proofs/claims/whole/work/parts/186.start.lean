/-! what is known where the law begins -/
theorem sr_inT {ws : List Cond} (ps : List Nat) (h : ws = ps.filterMap (fun i => lw_tbl[i]?)) : ∀ w ∈ ws, w ∈ lw_tbl := by
  intro w hw
  rw [h] at hw
  obtain ⟨i, -, hi⟩ := List.mem_filterMap.mp hw
  exact List.mem_of_getElem? hi
def sr_at : List Cond := flatC (Jvm.Cond.and given_1 narrow_1)
theorem sr_inF {ws : List Cond} (ps : List Nat) (h : ws = ps.filterMap (fun i => sr_at[i]?)) : ∀ w ∈ ws, w ∈ sr_at := by
  intro w hw
  rw [h] at hw
  obtain ⟨i, -, hi⟩ := List.mem_filterMap.mp hw
  exact List.mem_of_getElem? hi
def sr_tm (i : Nat) : Term := Term.string (q_SC.getD i ("", 0, "")).1 (q_SC.getD i ("", 0, "")).2.1
abbrev sr_va (i : Nat) : Term := .field (sr_tm i) "java/lang/String" "value" "[B"
set_option maxRecDepth 100000 in
theorem sr_1 : ∀ w ∈ (List.range 51).map (fun i => Cond.exactly (sr_tm i) "java/lang/String"), w ∈ sr_at := sr_inF [39, 51, 59, 67, 75, 84, 92, 100, 109, 117, 128, 135, 143, 152, 160, 169, 177, 185, 194, 202, 212, 220, 227, 234, 243, 251, 261, 270, 283, 295, 304, 315, 325, 335, 343, 352, 361, 370, 380, 389, 399, 408, 418, 427, 436, 445, 456, 465, 473, 481, 490] (by decide +kernel)
set_option maxRecDepth 100000 in
theorem sr_2 : ∀ w ∈ (List.range 51).map (fun i => Cond.eq (.field (sr_tm i) "java/lang/String" "coder" "B") (.int 0)), w ∈ sr_at := sr_inF [40, 52, 60, 68, 76, 85, 93, 101, 110, 118, 129, 136, 144, 153, 161, 170, 178, 186, 195, 203, 213, 221, 228, 235, 244, 252, 262, 271, 284, 296, 305, 316, 326, 336, 344, 353, 362, 371, 381, 390, 400, 409, 419, 428, 437, 446, 457, 466, 474, 482, 491] (by decide +kernel)
set_option maxRecDepth 100000 in
theorem sr_3 : ∀ w ∈ (List.range 51).map (fun i => Cond.arrayOf (sr_va i) .byte), w ∈ sr_at := sr_inF [41, 53, 61, 69, 77, 86, 94, 102, 111, 119, 130, 137, 145, 154, 162, 171, 179, 187, 196, 204, 214, 222, 229, 236, 245, 253, 263, 272, 285, 297, 306, 317, 327, 337, 345, 354, 363, 372, 382, 391, 401, 410, 420, 429, 438, 447, 458, 467, 475, 483, 492] (by decide +kernel)
set_option maxRecDepth 100000 in
theorem sr_4 : ∀ w ∈ (List.range 51).map (fun i => Cond.eq (.length (sr_va i)) (.int (Int32.ofNat (q_SB.getD i []).length))), w ∈ sr_at := sr_inF [42, 54, 62, 70, 78, 87, 95, 103, 112, 120, 131, 138, 146, 155, 163, 172, 180, 188, 197, 205, 215, 223, 230, 237, 246, 254, 264, 273, 286, 298, 307, 318, 328, 338, 346, 355, 364, 373, 383, 392, 402, 411, 421, 430, 439, 448, 459, 468, 476, 484, 493] (by decide +kernel)
set_option maxRecDepth 100000 in
theorem sr_5 : ∀ w ∈ (List.range 51).flatMap (fun i => (List.range (q_SB.getD i []).length).map (fun j => Cond.eq (.elem (sr_va i) (.int (Int32.ofNat j))) (.int ((q_SB.getD i []).getD j 0)))), w ∈ sr_at := sr_inF [43, 44, 45, 46, 47, 48, 49, 50, 55, 56, 57, 58, 63, 64, 65, 66, 71, 72, 73, 74, 79, 80, 81, 82, 83, 88, 89, 90, 91, 96, 97, 98, 99, 104, 105, 106, 107, 108, 113, 114, 115, 116, 121, 122, 123, 124, 125, 126, 127, 132, 133, 134, 139, 140, 141, 142, 147, 148, 149, 150, 151, 156, 157, 158, 159, 164, 165, 166, 167, 168, 173, 174, 175, 176, 181, 182, 183, 184, 189, 190, 191, 192, 198, 199, 200, 201, 206, 207, 208, 209, 210, 211, 216, 217, 218, 219, 224, 225, 226, 231, 232, 233, 238, 239, 240, 241, 247, 248, 249, 250, 255, 256, 257, 258, 265, 266, 267, 268, 269, 274, 275, 276, 277, 278, 279, 280, 281, 287, 288, 289, 290, 291, 292, 293, 299, 300, 301, 302, 308, 309, 310, 311, 319, 320, 321, 322, 323, 329, 330, 331, 332, 339, 340, 341, 347, 348, 349, 350, 356, 357, 358, 359, 365, 366, 367, 368, 374, 375, 376, 377, 378, 384, 385, 386, 387, 393, 394, 395, 396, 397, 403, 404, 405, 406, 412, 413, 414, 415, 416, 422, 423, 424, 425, 431, 432, 433, 434, 440, 441, 442, 443, 449, 450, 451, 452, 453, 454, 460, 461, 462, 463, 469, 470, 471, 477, 478, 479, 485, 486, 487, 488, 494, 495, 496, 497, 498] (by decide +kernel)
set_option maxRecDepth 100000 in
theorem sr_6 : ∀ w ∈ [Cond.isRef (.static Bundle.tN "UNASSIGNED_STACK" Bundle.steD), Cond.isRef (.static Bundle.tN "SUPPRESSED_SENTINEL" Bundle.listD), Cond.eq (.static "java/lang/String" "COMPACT_STRINGS" "Z") (.int 1), Cond.isRef (.static "jdk/internal/util/Preconditions" "SIOOBE_FORMATTER" "Ljava/util/function/BiFunction;"), Cond.not (.castable "java/lang/IllegalArgumentException" "java/util/NoSuchElementException")], w ∈ sr_at := sr_inF [4, 5, 6, 7, 38] (by decide +kernel)
set_option maxRecDepth 100000 in
theorem sr_nf : ∀ w ∈ q_NF.map (fun q => Cond.fieldLinkNest q.1 q.2.1 q.2.2.1 q.2.2.2.1 q.2.2.2.2 "DuskDebts"), w ∈ lw_tbl := sr_inT [374] (by decide +kernel)
set_option maxRecDepth 100000 in
theorem sr_nm : ∀ w ∈ q_NM.map (fun q => Cond.methodLinkNest q.1 q.2.1 q.2.2 "DuskDebts"), w ∈ lw_tbl := sr_inT [156, 185, 307, 339, 369, 380, 394, 399, 414, 435, 457] (by decide +kernel)
set_option maxRecDepth 100000 in
theorem sr_ca : ∀ w ∈ q_CA.map (fun q => Cond.castable q.1 q.2), w ∈ lw_tbl := sr_inT [726, 1208, 2314, 2315, 2316, 2317, 2318, 2319, 2320, 2321, 2322, 2323, 2324, 2325, 2326, 2327, 2328, 2329, 2330] (by decide +kernel)
set_option maxRecDepth 100000 in
theorem sr_de : ∀ w ∈ q_DE.map (fun q => Cond.declares q), w ∈ lw_tbl := sr_inT [727, 728, 729, 730, 731, 732] (by decide +kernel)
set_option maxRecDepth 100000 in
theorem sr_sr : ∀ w ∈ q_SC.map (fun q => Cond.stringRef q.1 q.2.1 q.2.2), w ∈ lw_tbl := sr_inT [829, 905, 915, 917, 918, 919, 920, 925, 930, 935, 940, 945, 1058, 1064, 1069, 1070, 1071, 1072, 1073, 1074, 1075, 1097, 1104, 1105, 1107, 1108, 1109, 1845, 1859, 1864, 1868, 1869, 1870, 1871, 1872, 1904, 1905, 1906, 1907, 1944, 1949, 1954, 1955, 1956, 1957, 1958, 1959, 1968, 1973, 1974, 1975] (by decide +kernel)
set_option maxRecDepth 100000 in
theorem sr_iw : ∀ w ∈ (List.range 13).map (fun x => Cond.instantiable (q_own x) (q_N x)), w ∈ lw_tbl := sr_inT [456, 306, 184, 413, 393, 279, 368, 434, 379, 338, 155, 147, 1585] (by decide +kernel)
set_option maxRecDepth 100000 in
theorem sr_aw : ∀ w ∈ [Cond.arrayClass .byte, Cond.arrayClass .int, Cond.arrayClass .long, Cond.arrayClass .boolean, Cond.arrayOver (.object "DuskDebts$Past")], w ∈ lw_tbl := sr_inT [182, 277, 454, 1808, 391] (by decide +kernel)
set_option maxRecDepth 100000 in
theorem sr_ls : ∀ w ∈ [Cond.laysStatic Bundle.tN "UNASSIGNED_STACK" Bundle.steD, Cond.laysStatic Bundle.tN "SUPPRESSED_SENTINEL" Bundle.listD, Cond.laysStatic "java/lang/String" "COMPACT_STRINGS" "Z", Cond.laysStatic "jdk/internal/util/Preconditions" "SIOOBE_FORMATTER" "Ljava/util/function/BiFunction;", Cond.initialized Bundle.tN, Cond.initialized "java/lang/String", Cond.initialized "jdk/internal/util/Preconditions"], w ∈ lw_tbl := sr_inT [751, 753, 843, 859, 132, 138, 140] (by decide +kernel)
theorem sr_str {args : Array Value} {s : State} {t : Term} {bs : List Int32} {A : Nat → Prop} (hN : bs.length < 2 ^ 31) (hex : (Cond.exactly t "java/lang/String").before args s = true) (hco : (Cond.eq (.field t "java/lang/String" "coder" "B") (.int 0)).before args s = true)
    (har : (Cond.arrayOf (.field t "java/lang/String" "value" "[B") .byte).before args s = true) (hle : (Cond.eq (.length (.field t "java/lang/String" "value" "[B")) (.int (Int32.ofNat bs.length))).before args s = true)
    (hel : ∀ j : Nat, j < bs.length → (Cond.eq (.elem (.field t "java/lang/String" "value" "[B") (.int (Int32.ofNat j))) (.int (bs.getD j 0))).before args s = true) (hA : ∀ a : Nat, a < s.heap.size → ¬ A a) :
    ∃ q : Nat × Nat, t.eval args s none [] s = some (.ref q.1) ∧ va_O "java/lang/String" q.1 A s s.heap ∧ va_OF "java/lang/String" "coder" "B" (.int 0) q.1 A s s.heap ∧ va_OF "java/lang/String" "value" "[B" (.ref q.2) q.1 A s s.heap ∧ va_T .byte q.2 bs.length (fun j => .int (bs.getD j 0)) A s s.heap := by
  obtain ⟨a, c, cA, kA, q1, q2, q3, q4, q5, q6, -⟩ := Cond.exactly_spec (args := args) (first := s) (o := none) (s := s) (idx := []) (t := t) (cls := "java/lang/String") hex
  obtain ⟨r, ht, hT⟩ := va_Tof (f := fun j => .int (bs.getD j 0)) (A := A) hN har (va_eqt hle) (fun j hj => va_eqt (hel j hj)) hA
  exact ⟨(a, r), q1, ⟨cA, q3, q5, by rw [q6]; exact q2, hA a (Array.getElem?_eq_some_iff.mp q3).1⟩, vk_OFof q1 (va_eqt hco) hA, vk_OFof q1 ht hA, hT⟩
theorem sr_ref {args : Array Value} {s : State} {t : Term} (h : (Cond.isRef t).before args s = true) : ∃ o : Option Nat, t.eval args s none [] s = some (va_rf o) := by
  cases hv : t.eval args s none [] s with
  | none => simp [Cond.before, Cond.holds, Cond.value, hv] at h
  | some v =>
    cases v with
    | null => exact ⟨none, rfl⟩
    | ref a => exact ⟨some a, rfl⟩
    | _ => simp [Cond.before, Cond.holds, Cond.value, hv, Value.isRef] at h
theorem sr_arr {args : Array Value} {s : State} {ty : FieldType} (h : (Cond.arrayClass ty).before args s = true) : ∃ cA : ClassId, s.vm.findClass ("[" ++ ty.toString) = some cA ∧ ArrOfT s cA ty := by
  obtain ⟨c, k, comp, h1, h2, h3⟩ := Cond.arrayClass_spec h
  exact ⟨c, h1, fun n z => ⟨(fun k h => by cases h), k, h2, comp, h3⟩⟩
theorem sr_K {s : State} {b : Nat} (hts : ∀ w ∈ lw_tbl, w.before #[Value.ref b] s = true) (hgv : (Jvm.Cond.and given_1 narrow_1).before #[Value.ref b] s = true) (hb : b < s.heap.size) :
    ∃ G : q_G, q_K G s ∧ q_F G s s.heap ∧ G.2.2.1 + 1 = s.heap.size ∧ G.2.2.2.1 999 = b ∧ p_Nc s ∧ va_AO "DuskDebts$Past" s := by
  have hat : ∀ w ∈ sr_at, w.before #[Value.ref b] s = true := flat_of_before _ hgv
  have hA : ∀ a : Nat, a < s.heap.size → ¬ (fun q : Nat => s.heap.size - 1 < q) a := fun a ha h => by
    have h : s.heap.size - 1 < a := h
    omega
  have hstr : ∀ i : Nat, ∃ q : Nat × Nat, i < 51 → (sr_tm i).eval #[Value.ref b] s none [] s = some (.ref q.1) ∧ va_O "java/lang/String" q.1 (fun q : Nat => s.heap.size - 1 < q) s s.heap ∧ va_OF "java/lang/String" "coder" "B" (.int 0) q.1 (fun q : Nat => s.heap.size - 1 < q) s s.heap ∧ va_OF "java/lang/String" "value" "[B" (.ref q.2) q.1 (fun q : Nat => s.heap.size - 1 < q) s s.heap ∧ va_T .byte q.2 ((q_SB.getD i []).length) (fun j => .int ((q_SB.getD i []).getD j 0)) (fun q : Nat => s.heap.size - 1 < q) s s.heap := by
    intro i
    by_cases hi : i < 51
    · have hm : i ∈ List.range 51 := List.mem_range.mpr hi
      have hlen : (q_SB.getD i []).length < 2 ^ 31 := by
        have h9 : ∀ k ∈ List.range 51, (q_SB.getD k []).length < 2 ^ 31 := by decide +kernel
        exact h9 i hm
      obtain ⟨q, hq⟩ := sr_str (bs := q_SB.getD i []) hlen (hat _ (sr_1 _ (List.mem_map_of_mem (f := fun i => Cond.exactly (sr_tm i) "java/lang/String") hm))) (hat _ (sr_2 _ (List.mem_map_of_mem (f := fun i => Cond.eq (.field (sr_tm i) "java/lang/String" "coder" "B") (.int 0)) hm)))
        (hat _ (sr_3 _ (List.mem_map_of_mem (f := fun i => Cond.arrayOf (sr_va i) .byte) hm))) (hat _ (sr_4 _ (List.mem_map_of_mem (f := fun i => Cond.eq (.length (sr_va i)) (.int (Int32.ofNat (q_SB.getD i []).length))) hm)))
        (fun j hj => hat _ (sr_5 _ (List.mem_flatMap.mpr ⟨i, hm, List.mem_map_of_mem (f := fun j => Cond.eq (.elem (sr_va i) (.int (Int32.ofNat j))) (.int ((q_SB.getD i []).getD j 0))) (List.mem_range.mpr hj)⟩))) hA
      exact ⟨q, fun _ => hq⟩
    · exact ⟨(0, 0), fun h => absurd h hi⟩
  obtain ⟨ad, had⟩ := Classical.axiomOfChoice hstr
  have hcls : ∀ x : Nat, ∃ q : ClassId × (Nat → Nat), x < 13 → u_Kn s (q_own x) (q_T x) (q_N x) q.1 q.2 := by
    intro x
    by_cases hx : x < 13
    · obtain ⟨c, i, h⟩ := u_known (n := q_N x) (fun w (hw : w ∈ q_TB) => hts w (List.mem_filter.mp hw).1) (q_uw hx) (hts _ (sr_iw _ (List.mem_map_of_mem (f := fun x => Cond.instantiable (q_own x) (q_N x)) (List.mem_range.mpr hx))))
      exact ⟨(c, i), fun _ => h⟩
    · exact ⟨(0, fun _ => 0), fun h => absurd h hx⟩
  obtain ⟨cd, hcd⟩ := Classical.axiomOfChoice hcls
  obtain ⟨a13, f13, r13⟩ := sr_arr (hts _ (sr_aw _ List.mem_cons_self))
  obtain ⟨a14, f14, r14⟩ := sr_arr (hts (Cond.arrayClass .int) (sr_aw _ (by simp)))
  obtain ⟨a15, f15, r15⟩ := sr_arr (hts (Cond.arrayClass .long) (sr_aw _ (by simp)))
  obtain ⟨a16, f16, r16⟩ := sr_arr (hts (Cond.arrayClass .boolean) (sr_aw _ (by simp)))
  have hover := hts (Cond.arrayOver (.object "DuskDebts$Past")) (sr_aw _ (by simp))
  obtain ⟨comp, a17, k17, o1, o2, o3, o4, o5⟩ := Cond.arrayOver_spec hover
  obtain ⟨fm, hfm⟩ := sr_ref (hat _ (sr_6 (Cond.isRef (.static "jdk/internal/util/Preconditions" "SIOOBE_FORMATTER" "Ljava/util/function/BiFunction;")) (by simp)))
  refine ⟨((fun x => (cd x).1, fun x => (cd x).2), fun k => if k = 13 then a13 else if k = 14 then a14 else if k = 15 then a15 else if k = 16 then a16 else a17, s.heap.size - 1, fun i => if i = 999 then b else (ad i).1, fun i => (ad i).2, fm), ⟨⟨fun c q hq => ?_, fun k q hq => ?_⟩, fun i q hq => ?_, fun q hq => ?_, fun q hq => ?_, fun q hq => ?_, fun q hq => ?_, fun q hq => ?_⟩, ⟨fun i hi => ?_, ?_, ?_, ?_, ?_⟩, ?_, ?_, ?_, ?_⟩
  · have hc : c < 13 := by
      have h9 := (List.getElem?_eq_some_iff.mp hq).1
      have h8 : vwCl.length = 13 := by decide +kernel
      omega
    rw [q_cl hc] at hq
    cases hq
    exact hcd c hc
  · match k, hq with
    | 0, hq => cases hq; exact ⟨r13, f13⟩
    | 1, hq => cases hq; exact ⟨r14, f14⟩
    | 2, hq => cases hq; exact ⟨r15, f15⟩
    | 3, hq => cases hq; exact ⟨r16, f16⟩
    | 4, hq => cases hq; exact ⟨fun n z => ⟨(fun k h => by cases h), k17, o3, comp, o4⟩, k17, comp, o3, o4, o1, o5⟩
    | k + 5, hq => simp [q_tys] at hq
  · have hi : i < 51 := by
      have h9 := (List.getElem?_eq_some_iff.mp hq).1
      have h8 : q_SC.length = 51 := by decide +kernel
      omega
    have hne : ¬ i = 999 := by omega
    have e1 : q_SC.getD i ("", 0, "") = q := by rw [List.getD_eq_getElem?_getD, hq]; rfl
    show vk_R q.1 q.2.1 q.2.2 (if i = 999 then b else (ad i).1) s
    rw [if_neg hne]
    refine vk_R.of (A := #[Value.ref b]) (hts _ (sr_sr _ (List.mem_map_of_mem (f := fun q : String × Nat × String => Cond.stringRef q.1 q.2.1 q.2.2) (List.mem_of_getElem? hq)))) ?_
    have h2 := (had i hi).1
    unfold sr_tm at h2
    rw [e1] at h2
    exact h2
  · exact va_Nw.of rfl (hts _ (sr_nf _ (List.mem_map_of_mem (f := fun q : String × Nat × String × String × String => Cond.fieldLinkNest q.1 q.2.1 q.2.2.1 q.2.2.2.1 q.2.2.2.2 "DuskDebts") hq)))
  · exact va_Nw.of rfl (hts _ (sr_nm _ (List.mem_map_of_mem (f := fun q : String × Nat × MethodName => Cond.methodLinkNest q.1 q.2.1 q.2.2 "DuskDebts") hq)))
  · exact va_Nw.of rfl (hts _ (sr_ca _ (List.mem_map_of_mem (f := fun q : String × String => Cond.castable q.1 q.2) hq)))
  · exact va_Nw.of rfl (hts _ (sr_de _ (List.mem_map_of_mem (f := fun q : MethodName => Cond.declares q) hq)))
  · simp only [q_AN, List.mem_cons, List.not_mem_nil, or_false] at hq
    rcases hq with rfl | rfl | rfl | rfl | rfl
    · exact f13
    · exact f14
    · exact f15
    · exact f16
    · exact o5
  · have hne : ¬ i = 999 := by omega
    have h2 := (had i hi).2
    dsimp only
    rw [if_neg hne]
    exact h2
  · exact va_Zof (hts _ (sr_ls _ (by simp))) (hts _ (sr_ls _ (by simp))) (va_eqi (hat _ (sr_6 _ (by simp)))) hA
  · exact vx_Zqof (hts _ (sr_ls _ (by simp))) (hts _ (sr_ls _ (by simp))) (hat _ (sr_6 _ (by simp))) hA
  · exact vx_Zqof (hts _ (sr_ls _ (by simp))) (hts _ (sr_ls _ (by simp))) (hat _ (sr_6 _ (by simp))) hA
  · exact va_Zof (hts _ (sr_ls _ (by simp))) (hts _ (sr_ls _ (by simp))) hfm hA
  · show s.heap.size - 1 + 1 = s.heap.size
    omega
  · rfl
  · exact va_Nc.of (hat _ (sr_6 _ (by simp)))
  · exact va_AO.of hover
