theorem q_inTB {ws : List Cond} (ps : List Nat) (h : ws = ps.filterMap (fun i => lw_tbl[i]?)) (hg : ws.all goodWord = true) : ∀ w ∈ ws, w ∈ q_TB := by
  intro w hw
  have h1 := List.all_eq_true.mp hg w hw
  rw [h] at hw
  obtain ⟨i, -, hi⟩ := List.mem_filterMap.mp hw
  exact List.mem_filter.mpr ⟨List.mem_of_getElem? hi, h1⟩
def q_T (x : Nat) : u_T := match x with
  | 0 => TX0
  | 1 => TX1
  | 2 => TX2
  | 3 => TX3
  | 4 => TX4
  | 5 => TX5
  | 6 => TX6
  | 7 => TX7
  | 8 => TX8
  | 9 => TX9
  | 10 => TX10
  | 11 => TX11
  | _ => TX12
def q_N (x : Nat) : Nat := match x with
  | 0 => 4
  | 1 => 7
  | 2 => 20
  | 3 => 4
  | 4 => 3
  | 5 => 4
  | 6 => 1
  | 7 => 4
  | 8 => 2
  | 9 => 7
  | 10 => 7
  | 11 => 19
  | _ => 67
def q_ty (x : Nat) : Nat → FieldType := match x with
  | 0 => tyX0
  | 1 => tyX1
  | 2 => tyX2
  | 3 => tyX3
  | 4 => tyX4
  | 5 => tyX5
  | 6 => tyX6
  | 7 => tyX7
  | 8 => tyX8
  | 9 => tyX9
  | 10 => tyX10
  | 11 => tyX11
  | _ => tyX12
theorem q_13 {P : Nat → Prop} (h0 : P 0) (h1 : P 1) (h2 : P 2) (h3 : P 3) (h4 : P 4) (h5 : P 5) (h6 : P 6) (h7 : P 7) (h8 : P 8) (h9 : P 9) (h10 : P 10) (h11 : P 11) (h12 : P 12) {x : Nat} (h : x < 13) : P x := by
  match x, h with
  | 0, _ => exact h0
  | 1, _ => exact h1
  | 2, _ => exact h2
  | 3, _ => exact h3
  | 4, _ => exact h4
  | 5, _ => exact h5
  | 6, _ => exact h6
  | 7, _ => exact h7
  | 8, _ => exact h8
  | 9, _ => exact h9
  | 10, _ => exact h10
  | 11, _ => exact h11
  | 12, _ => exact h12
  | x + 13, h => omega
theorem q_cl {x : Nat} (h : x < 13) : vwCl[x]? = some (q_own x, q_T x, q_N x) := q_13 (P := fun x => vwCl[x]? = some (q_own x, q_T x, q_N x)) rfl rfl rfl rfl rfl rfl rfl rfl rfl rfl rfl rfl rfl h
theorem q_tyok {x : Nat} (h : x < 13) : ∀ k, k < q_N x → parseFieldDescriptor (q_T x k).2.2.1 = some (q_ty x k) := q_13 (P := fun x => ∀ k, k < q_N x → parseFieldDescriptor (q_T x k).2.2.1 = some (q_ty x k)) tyX0_ok tyX1_ok tyX2_ok tyX3_ok tyX4_ok tyX5_ok tyX6_ok tyX7_ok tyX8_ok tyX9_ok tyX10_ok tyX11_ok tyX12_ok h
theorem q_nm {x : Nat} (h : x < 13) : ∀ a, a < q_N x → ∀ b, b < q_N x → a ≠ b → (q_T x a).2.1 ≠ (q_T x b).2.1 := q_13 (P := fun x => ∀ a, a < q_N x → ∀ b, b < q_N x → a ≠ b → (q_T x a).2.1 ≠ (q_T x b).2.1) nmX0 nmX1 nmX2 nmX3 nmX4 nmX5 nmX6 nmX7 nmX8 nmX9 nmX10 nmX11 nmX12 h
set_option maxRecDepth 100000 in
theorem q_uw0 : ∀ w ∈ u_ws (q_own 0) (q_T 0) (q_N 0), w ∈ q_TB := q_inTB [468, 470, 472, 474] (by decide +kernel) (by decide +kernel)
set_option maxRecDepth 100000 in
theorem q_uw1 : ∀ w ∈ u_ws (q_own 1) (q_T 1) (q_N 1), w ∈ q_TB := q_inTB [322, 324, 326, 328, 330, 332, 334] (by decide +kernel) (by decide +kernel)
set_option maxRecDepth 100000 in
theorem q_uw2 : ∀ w ∈ u_ws (q_own 2) (q_T 2) (q_N 2), w ∈ q_TB := q_inTB [236, 238, 240, 242, 244, 246, 248, 250, 252, 254, 256, 258, 260, 262, 264, 266, 268, 270, 272, 274] (by decide +kernel) (by decide +kernel)
set_option maxRecDepth 100000 in
theorem q_uw3 : ∀ w ∈ u_ws (q_own 3) (q_T 3) (q_N 3), w ∈ q_TB := q_inTB [424, 426, 428, 430] (by decide +kernel) (by decide +kernel)
set_option maxRecDepth 100000 in
theorem q_uw4 : ∀ w ∈ u_ws (q_own 4) (q_T 4) (q_N 4), w ∈ q_TB := q_inTB [405, 407, 409] (by decide +kernel) (by decide +kernel)
set_option maxRecDepth 100000 in
theorem q_uw5 : ∀ w ∈ u_ws (q_own 5) (q_T 5) (q_N 5), w ∈ q_TB := q_inTB [296, 298, 300, 302] (by decide +kernel) (by decide +kernel)
set_option maxRecDepth 100000 in
theorem q_uw6 : ∀ w ∈ u_ws (q_own 6) (q_T 6) (q_N 6), w ∈ q_TB := q_inTB [375] (by decide +kernel) (by decide +kernel)
set_option maxRecDepth 100000 in
theorem q_uw7 : ∀ w ∈ u_ws (q_own 7) (q_T 7) (q_N 7), w ∈ q_TB := q_inTB [445, 447, 449, 451] (by decide +kernel) (by decide +kernel)
set_option maxRecDepth 100000 in
theorem q_uw8 : ∀ w ∈ u_ws (q_own 8) (q_T 8) (q_N 8), w ∈ q_TB := q_inTB [386, 388] (by decide +kernel) (by decide +kernel)
set_option maxRecDepth 100000 in
theorem q_uw9 : ∀ w ∈ u_ws (q_own 9) (q_T 9) (q_N 9), w ∈ q_TB := q_inTB [352, 354, 356, 358, 360, 362, 364] (by decide +kernel) (by decide +kernel)
set_option maxRecDepth 100000 in
theorem q_uw10 : ∀ w ∈ u_ws (q_own 10) (q_T 10) (q_N 10), w ∈ q_TB := q_inTB [167, 169, 171, 173, 175, 177, 179] (by decide +kernel) (by decide +kernel)
set_option maxRecDepth 100000 in
theorem q_uw11 : ∀ w ∈ u_ws (q_own 11) (q_T 11) (q_N 11), w ∈ q_TB := q_inTB [496, 498, 500, 502, 504, 506, 508, 510, 512, 514, 516, 518, 520, 522, 524, 526, 528, 530, 532] (by decide +kernel) (by decide +kernel)
set_option maxRecDepth 100000 in
theorem q_uw12 : ∀ w ∈ u_ws (q_own 12) (q_T 12) (q_N 12), w ∈ q_TB := q_inTB [1673, 1675, 1677, 1679, 1681, 1683, 1685, 1687, 1689, 1691, 1693, 1695, 1697, 1699, 1701, 1703, 1705, 1707, 1709, 1711, 1713, 1715, 1717, 1719, 1721, 1723, 1725, 1727, 1729, 1731, 1733, 1735, 1737, 1739, 1741, 1743, 1745, 1747, 1749, 1751, 1753, 1755, 1757, 1759, 1761, 1763, 1765, 1767, 1769, 1771, 1773, 1775, 1777, 1779, 1781, 1783, 1785, 1787, 1789, 1791, 1793, 1795, 1797, 1799, 1801, 1803, 1805] (by decide +kernel) (by decide +kernel)
theorem q_uw {x : Nat} (h : x < 13) : ∀ w ∈ u_ws (q_own x) (q_T x) (q_N x), w ∈ q_TB := q_13 (P := fun x => ∀ w ∈ u_ws (q_own x) (q_T x) (q_N x), w ∈ q_TB) q_uw0 q_uw1 q_uw2 q_uw3 q_uw4 q_uw5 q_uw6 q_uw7 q_uw8 q_uw9 q_uw10 q_uw11 q_uw12 h
/-- field links: the class in whose code, the place, the kind, the field -/
def q_FR : List (Nat × Nat × Nat × Nat) := [(10, 9, 10, 0), (10, 19, 10, 1), (10, 28, 10, 2), (10, 31, 10, 3), (10, 34, 10, 4), (10, 37, 10, 5), (10, 15, 10, 6), (2, 77, 2, 0), (9, 71, 2, 0), (11, 169, 2, 0), (2, 9, 2, 1), (11, 191, 2, 1), (6, 95, 2, 1), (2, 15, 2, 2), (11, 195, 2, 2), (3, 18, 2, 3), (6, 21, 2, 3), (2, 81, 2, 3), (9, 48, 2, 3), (11, 125, 2, 3), (2, 18, 2, 4), (6, 30, 2, 4), (2, 21, 2, 5), (3, 47, 2, 5), (11, 212, 2, 5), (6, 43, 2, 5), (2, 24, 2, 6), (6, 27, 2, 6), (2, 27, 2, 7), (11, 218, 2, 7), (6, 98, 2, 7), (2, 30, 2, 8), (11, 221, 2, 8), (6, 79, 2, 8), (2, 33, 2, 9), (6, 85, 2, 9), (2, 84, 2, 10), (1, 59, 2, 10), (11, 172, 2, 10), (2, 36, 2, 11), (2, 39, 2, 12), (2, 42, 2, 13), (11, 237, 2, 13), (6, 53, 2, 13), (7, 26, 2, 14), (2, 87, 2, 14), (11, 175, 2, 14), (2, 45, 2, 15), (2, 48, 2, 16), (2, 51, 2, 17), (2, 90, 2, 18), (4, 62, 2, 18), (11, 453, 2, 18), (2, 54, 2, 19), (5, 9, 5, 0), (5, 24, 5, 1), (5, 15, 5, 2), (5, 18, 5, 3), (1, 21, 1, 0), (11, 152, 1, 0), (1, 9, 1, 1), (1, 15, 1, 2), (1, 18, 1, 3), (1, 71, 1, 4), (11, 347, 1, 4), (1, 74, 1, 5), (11, 350, 1, 5), (1, 77, 1, 6), (11, 353, 1, 6), (9, 9, 9, 0), (9, 15, 9, 1), (9, 18, 9, 2), (9, 21, 9, 3), (9, 95, 9, 4), (11, 148, 9, 5), (9, 98, 9, 5), (11, 142, 9, 6), (9, 101, 9, 6), (6, 11, 6, 0), (8, 11, 8, 0), (8, 17, 8, 1), (4, 12, 4, 0), (4, 54, 4, 1), (11, 399, 4, 1), (4, 58, 4, 2), (11, 402, 4, 2), (3, 9, 3, 0), (3, 15, 3, 1), (3, 34, 3, 2), (11, 266, 3, 2), (3, 37, 3, 3), (11, 269, 3, 3), (7, 9, 7, 0), (7, 15, 7, 1), (7, 18, 7, 2), (11, 293, 7, 2), (7, 36, 7, 3), (11, 287, 7, 3), (0, 9, 0, 0), (0, 13, 0, 1), (11, 376, 0, 1), (0, 34, 0, 2), (11, 379, 0, 2), (0, 37, 0, 3), (11, 382, 0, 3), (11, 10, 11, 0), (11, 19, 11, 1), (11, 23, 11, 2), (11, 29, 11, 3), (11, 33, 11, 4), (11, 39, 11, 5), (11, 43, 11, 6), (11, 49, 11, 7), (11, 56, 11, 8), (11, 63, 11, 9), (11, 67, 11, 10), (11, 409, 11, 11), (11, 145, 11, 12), (11, 416, 11, 13), (11, 419, 11, 14), (11, 74, 11, 15), (11, 81, 11, 16), (11, 88, 11, 17), (11, 95, 11, 18), (12, 3, 12, 0), (12, 7, 12, 1), (12, 132, 12, 2), (12, 144, 12, 3), (12, 141, 12, 4), (12, 135, 12, 5), (12, 138, 12, 6), (12, 175, 12, 7), (12, 17, 12, 8), (12, 20, 12, 9), (12, 23, 12, 10), (12, 26, 12, 11), (12, 29, 12, 12), (12, 32, 12, 13), (12, 35, 12, 14), (12, 38, 12, 15), (12, 41, 12, 16), (12, 44, 12, 17), (12, 47, 12, 18), (12, 50, 12, 19), (12, 53, 12, 20), (12, 56, 12, 21), (12, 59, 12, 22), (12, 62, 12, 23), (12, 178, 12, 24), (12, 181, 12, 25), (12, 184, 12, 26), (12, 187, 12, 27), (12, 190, 12, 28), (12, 193, 12, 29), (12, 196, 12, 30), (12, 199, 12, 31), (12, 202, 12, 32), (12, 205, 12, 33), (12, 65, 12, 34), (12, 68, 12, 35), (12, 71, 12, 36), (12, 74, 12, 37), (12, 77, 12, 38), (12, 304, 12, 39), (12, 212, 12, 40), (12, 80, 12, 41), (12, 83, 12, 42), (12, 86, 12, 43), (12, 351, 12, 44), (12, 218, 12, 45), (12, 224, 12, 46), (12, 372, 12, 47), (12, 375, 12, 48), (12, 378, 12, 49), (12, 89, 12, 50), (12, 92, 12, 51), (12, 95, 12, 52), (12, 98, 12, 53), (12, 101, 12, 54), (12, 215, 12, 55), (12, 104, 12, 56), (12, 107, 12, 57), (12, 110, 12, 58), (12, 113, 12, 59), (12, 116, 12, 60), (12, 462, 12, 61), (12, 120, 12, 62), (12, 507, 12, 63), (12, 511, 12, 64), (12, 123, 12, 65), (12, 221, 12, 66)]
def q_fw (e : Nat × Nat × Nat × Nat) : Cond := .fieldLink (q_own e.1) e.2.1 (q_T e.2.2.1 e.2.2.2).1 (q_T e.2.2.1 e.2.2.2).2.1 (q_T e.2.2.1 e.2.2.2).2.2.1
set_option maxRecDepth 100000 in
theorem q_FR_in : ∀ w ∈ q_FR.map q_fw, w ∈ q_TB := q_inTB [160, 161, 162, 163, 164, 165, 166, 189, 190, 191, 192, 193, 194, 195, 196, 197, 198, 199, 200, 201, 202, 203, 204, 205, 206, 207, 208, 209, 210, 211, 212, 213, 214, 215, 216, 217, 218, 219, 220, 221, 222, 223, 224, 225, 226, 227, 228, 229, 230, 231, 232, 233, 234, 235, 292, 293, 294, 295, 311, 312, 313, 314, 315, 316, 317, 318, 319, 320, 321, 343, 344, 345, 346, 347, 348, 349, 350, 351, 373, 384, 385, 400, 401, 402, 403, 404, 418, 419, 420, 421, 422, 423, 439, 440, 441, 442, 443, 444, 461, 462, 463, 464, 465, 466, 467, 477, 478, 479, 480, 481, 482, 483, 484, 485, 486, 487, 488, 489, 490, 491, 492, 493, 494, 495, 1606, 1607, 1608, 1609, 1610, 1611, 1612, 1613, 1614, 1615, 1616, 1617, 1618, 1619, 1620, 1621, 1622, 1623, 1624, 1625, 1626, 1627, 1628, 1629, 1630, 1631, 1632, 1633, 1634, 1635, 1636, 1637, 1638, 1639, 1640, 1641, 1642, 1643, 1644, 1645, 1646, 1647, 1648, 1649, 1650, 1651, 1652, 1653, 1654, 1655, 1656, 1657, 1658, 1659, 1660, 1661, 1662, 1663, 1664, 1665, 1666, 1667, 1668, 1669, 1670, 1671, 1672] (by decide +kernel) (by decide +kernel)
def q_FN : List (Nat × Nat × Nat × Nat) := [(8, 27, 6, 0)]
theorem q_FN_in : ∀ e ∈ q_FN, (q_own e.1, e.2.1, (q_T e.2.2.1 e.2.2.2).1, (q_T e.2.2.1 e.2.2.2).2.1, (q_T e.2.2.1 e.2.2.2).2.2.1) ∈ q_NF := by decide +kernel
/-- a text's fields, the statics that are read: the class in whose code, the place -/
def q_TF : List (Nat × Nat × Nat) := [(17, 9, 0), (17, 15, 1)]
theorem q_TF_in : ∀ w ∈ [Cond.fieldLink "java/lang/String" 9 "java/lang/String" "value" "[B", Cond.fieldLink "java/lang/String" 15 "java/lang/String" "coder" "B"], w ∈ q_TB := q_inTB [2331, 2332] (by decide +kernel) (by decide +kernel)
def q_TG : List (Nat × Nat) := [(17, 38)]
def q_TH : List (Nat × Nat) := [(17, 1053)]
theorem q_TG_in : ∀ w ∈ [Cond.fieldLink "java/lang/String" 38 "java/lang/String" "COMPACT_STRINGS" "Z", Cond.fieldLink "java/lang/String" 1053 "jdk/internal/util/Preconditions" "SIOOBE_FORMATTER" "Ljava/util/function/BiFunction;"], w ∈ q_TB := q_inTB [842, 858] (by decide +kernel) (by decide +kernel)
def q_CW : List (Nat × Nat × Nat) := [(14, 265, 0), (14, 266, 1), (14, 267, 2), (3, 33, 3), (4, 61, 4), (11, 405, 5), (12, 469, 6), (12, 510, 7)]
set_option maxRecDepth 100000 in
theorem q_CW_in : ∀ w ∈ q_CW.map (fun e => Cond.constant (q_own e.1) e.2.1 (q_CN.getD e.2.2 0)), w ∈ q_TB := q_inTB [1006, 1007, 1008, 1307, 1551, 1572, 2180, 2272] (by decide +kernel) (by decide +kernel)
def q_LW : List (Nat × Nat × Nat) := [(7, 47, 0), (15, 314, 1), (15, 316, 2), (15, 318, 3), (11, 456, 4), (11, 371, 5)]
set_option maxRecDepth 100000 in
theorem q_LW_in : ∀ w ∈ q_LW.map (fun e => Cond.constantLong (q_own e.1) e.2.1 (q_CL.getD e.2.2 0)), w ∈ q_TB := q_inTB [1009, 1013, 1014, 1015, 1498, 1502] (by decide +kernel) (by decide +kernel)
theorem q_shlen {id : Nat} (h : (q_sh id).1 < 13) : (q_sh id).2 = q_N (q_sh id).1 := by
  by_cases hi : id < 117
  · have h9 : (List.range 117).all (fun i => decide (13 ≤ (q_sh i).1) || decide ((q_sh i).2 = q_N (q_sh i).1)) = true := by decide +kernel
    have := List.all_eq_true.mp h9 id (List.mem_range.mpr hi)
    simp only [Bool.or_eq_true, decide_eq_true_eq] at this
    rcases this with h1 | h1
    · omega
    · exact h1
  · have e9 : q_sh id = (99, 0) := by
      unfold q_sh
      rw [List.getD_eq_getElem?_getD, List.getElem?_eq_none (by have : q_SH.length = 117 := by decide +kernel
                                                                omega)]
      rfl
    rw [e9] at h
    exact absurd h (by decide)
