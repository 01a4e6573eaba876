/-! what holds between calls -/
/-- slots that calls leave as they may -/
def scr (i j : Nat) : Bool := i == 38 || i == 39 || i == 42 || i == 43 || i == 67 || i == 69 || i == 70 || i == 71 || i == 72 || i == 77 || i == 78 || ((i == 44 || i == 48) && decide (4 ≤ j)) || i == 100 || i == 101 || i == 105 || i == 109 || i == 110 || i == 111 || i == 112 || i == 113 || i == 114 || (i == 79 && (j == 0 || j == 61 || j == 63 || j == 64))
def sim (w u : q_Sm) : Prop := (u.2.2 = w.2.2 ∧ u.2.1 75 0 = w.2.1 75 0) ∧ ∀ i j, scr i j = false → u.1 i j = w.1 i j
theorem sim.refl (w : q_Sm) : sim w w := ⟨⟨rfl, rfl⟩, fun _ _ _ => rfl⟩
theorem sim.trans {w u v : q_Sm} (h : sim w u) (k : sim u v) : sim w v := ⟨⟨k.1.1.trans h.1.1, k.1.2.trans h.1.2⟩, fun i j q => (k.2 i j q).trans (h.2 i j q)⟩
theorem sim.of {w u : q_Sm} (h : fr scr w u) : sim w u := ⟨⟨by rw [h.1], by rw [h.1]⟩, h.2⟩
theorem z75 (u : q_Sm) (v : Int64) : (q_wJ u 116 0 v).2.1 75 0 = u.2.1 75 0 := by simp [q_wJ, q_up]
/-- weddings: which dusks fit, what lacks, the first way -/
def fit (T : Tb) (v e : Nat) : Bool := decide (e ≤ T 5 (3 * v + 2) ∧ T 5 (3 * v + 1) ≤ m_light T e (T 5 (3 * v)))
def pc (s : Nat) : Nat := sm (fun v => if s.testBit v then 1 else 0) 6
def anyf (T : Tb) (s e : Nat) : Nat → Bool
  | 0 => false
  | v + 1 => anyf T s e v || (s.testBit v && fit T v e)
def cnf (T : Tb) (tk : Nat → Bool) (s : Nat) : Nat := sm (fun e => if tk e = false ∧ anyf T s e 6 = true then 1 else 0) 61
def lk (T : Tb) (tk : Nat → Bool) (A : Nat) : Nat → Nat
  | 0 => 0
  | s + 1 => max (lk T tk A s) (if s &&& A = s then pc s - cnf T tk s else 0)
def mm1 (T : Tb) (tk : Nat → Bool) (A : Nat) : Nat := pc A - lk T tk A (A + 1)
def allw (T : Tb) (v : Nat) : Nat := 2 ^ T 7 3 - 2 ^ v
def fday (T : Tb) (v : Nat) (tk : Nat → Bool) (wanted : Nat) : Nat → Option Nat
  | 0 => none
  | f + 1 => if fit T v (60 - f) = true ∧ tk (60 - f) = false ∧ wanted ≤ mm1 T (fun e => tk e || e == 60 - f) (allw T (v + 1)) then some (60 - f) else fday T v tk wanted f
def mm (T : Tb) : Nat := mm1 T (fun _ => false) (allw T 0)
def ww (T : Tb) : Nat → (Nat → Bool) × Nat × Option Nat
  | 0 => (fun _ => false, 0, none)
  | v + 1 => match fday T v (ww T v).1 (mm T - (ww T v).2.1 - 1) 61 with
    | none => ((ww T v).1, (ww T v).2.1, none)
    | some e => (fun x => (ww T v).1 x || x == e, (ww T v).2.1 + 1, some e)
def wd (T : Tb) (v : Nat) : Option Nat := (ww T (v + 1)).2.2
def mt (T : Tb) (w : q_Sm) : Prop := w.1 73 3 = nI (mm T) ∧ ∀ v, v < T 7 3 → w.1 76 v = oI (wd T v)
/-- a row that may stand -/
def okr (T : Tb) (S : Nat → Nat) : Prop := rw2 T S ∧ ∀ k, k < 4 → S (58 + k) = sm (pof T S k) (T 7 1)
/-- the book -/
def bk (B : Nat → Nat) (m : Nat) (w : q_Sm) : Prop := m ≤ 10 ∧ w.1 w.2.2.2.2.2.2.1 0 = nI m ∧ w.1 79 55 = nI m ∧
  ∀ i, i < m → (w.1 (w.2.2.2.2.2.2.1 + 1) i = nI (B (3 * i)) ∧ w.1 (w.2.2.2.2.2.2.1 + 2) i = nI (B (3 * i + 1)) ∧ w.1 (w.2.2.2.2.2.2.1 + 3) i = nI (B (3 * i + 2))) ∧ (w.1 108 (3 * i) = nI (B (3 * i)) ∧ w.1 108 (3 * i + 1) = nI (B (3 * i + 1)) ∧ w.1 108 (3 * i + 2) = nI (B (3 * i + 2))) ∧ B (3 * i) ≤ 60 ∧ B (3 * i + 1) < 4 ∧ B (3 * i + 2) ≤ 40
/-- which objects are now, which drafts -/
def ids (w : q_Sm) : Prop := ((w.2.2.1 = 4 ∧ w.2.2.2.1 = 20) ∨ (w.2.2.1 = 20 ∧ w.2.2.2.1 = 4)) ∧ ((w.2.2.2.2.1 = 36 ∧ w.2.2.2.2.2.1 = 40) ∨ (w.2.2.2.2.1 = 40 ∧ w.2.2.2.2.2.1 = 36)) ∧ ((w.2.2.2.2.2.2.1 = 44 ∧ w.2.2.2.2.2.2.2 = 48) ∨ (w.2.2.2.2.2.2.1 = 48 ∧ w.2.2.2.2.2.2.2 = 44))
def Co (T : Tb) (β C : Nat → Nat) (n : Nat) (S B : Nat → Nat) (m : Nat) (w : q_Sm) : Prop :=
  ids w ∧ KE w.2.2.1 w.2.2.2.2.1 T β C n w ∧ RE T C n w ∧ cR 57 S w ∧ rR 104 S w ∧ okr T S ∧ mt T w ∧ bk B m w
/-- works that can be undone -/
def pst (T : Tb) (w : q_Sm) : Prop := ∃ (n : Nat) (P : Nat → Nat → Nat), n ≤ 16 ∧ w.1 58 1 = nI n ∧ w.1 79 45 = nI n ∧ ∀ i, i < n → (∀ k, k < 59 → w.1 59 (i * 59 + k) = nI (P i (pm k))) ∧ (∀ k, k < 63 → w.1 106 (63 * i + k) = nI (P i k)) ∧ okr T (P i)
/-- an image -/
def im1 (T : Tb) (i : Nat) (w : q_Sm) : Prop := ∃ (m : Nat) (R : Nat → Nat → Nat), m ≤ 16 ∧ w.1 (61 + 2 * i) 1 = nI (m + 1) ∧ w.1 115 (1072 * i + 1071) = nI m ∧ (∀ j, j ≤ m → (∀ k, k < 59 → w.1 (62 + 2 * i) (j * 59 + k) = nI (R j (pm k))) ∧ okr T (R j)) ∧ (∀ k, k < 63 → w.1 115 (1072 * i + k) = nI (R m k)) ∧ ∀ j, j < m → ∀ k, k < 63 → w.1 115 (1072 * i + 63 + (63 * j + k)) = nI (R j k)
def img (T : Tb) (w : q_Sm) : Prop := ∃ n : Nat, n ≤ 3 ∧ w.1 1 11 = nI n ∧ w.1 79 66 = nI n ∧ ∀ i, i < n → im1 T i w
/-- a byte as the class keeps it -/
def sx (y : Nat) : Int32 := (nI y).toInt8.toInt32
def tp (w : q_Sm) : Prop := ∃ (n : Nat) (Y : Nat → Nat), n ≤ 600 ∧ w.1 2 1 = nI n ∧ w.1 79 2 = nI n ∧ ∀ k, k < n → Y k < 256 ∧ w.1 81 k = nI (Y k) ∧ w.1 3 k = sx (Y k)
def cnt (w : q_Sm) : Prop := w.1 1 13 = w.1 80 0 ∧ w.1 1 14 = w.1 80 1 ∧ w.1 1 12 = w.1 79 46 ∧ w.1 2 6 = w.1 79 8 ∧ w.2.1 75 0 = 0
def Inv (w : q_Sm) : Prop := ∃ (T : Tb) (β C : Nat → Nat) (n : Nat) (S B : Nat → Nat) (m : Nat), Co T β C n S B m w ∧ pst T w ∧ img T w ∧ tp w ∧ cnt w
/-- all of it but for some cells -/
theorem mt.eq {T : Tb} {w u : q_Sm} (h : mt T w) (k : ∀ i j, i = 73 ∨ i = 76 → u.1 i j = w.1 i j) : mt T u := ⟨(k _ _ (Or.inl rfl)).trans h.1, fun v hv => (k _ _ (Or.inr rfl)).trans (h.2 v hv)⟩
theorem bk.eq {B : Nat → Nat} {m : Nat} {w u : q_Sm} (h : bk B m w) (h2 : u.2.2 = w.2.2) (hi : w.2.2.2.2.2.2.1 = 44 ∨ w.2.2.2.2.2.2.1 = 48) (k : ∀ i j, ((i = 44 ∨ i = 48) ∧ j < 4) ∨ (45 ≤ i ∧ i ≤ 47) ∨ (49 ≤ i ∧ i ≤ 51) ∨ (i = 79 ∧ j = 55) ∨ i = 108 → u.1 i j = w.1 i j) : bk B m u := by
  obtain ⟨h1, h3, h4, h5⟩ := h
  unfold bk
  rw [h2, k _ 0 (by omega), k 79 55 (by omega)]
  refine ⟨h1, h3, h4, fun i hi' => ?_⟩
  rw [k _ i (by omega), k _ i (by omega), k _ i (by omega), k 108 _ (by omega), k 108 _ (by omega), k 108 _ (by omega)]
  exact h5 i hi'
theorem pst.eq {T : Tb} {w u : q_Sm} (h : pst T w) (k : ∀ i j, i = 58 ∨ i = 59 ∨ (i = 79 ∧ j = 45) ∨ i = 106 → u.1 i j = w.1 i j) : pst T u := by
  obtain ⟨n, P, h1, h2, h3, h4⟩ := h
  refine ⟨n, P, h1, ?_, ?_, fun i hi => ⟨fun j hj => ?_, fun j hj => ?_, (h4 i hi).2.2⟩⟩
  · rw [k _ _ (by omega)]; exact h2
  · rw [k _ _ (by omega)]; exact h3
  · rw [k _ _ (by omega)]; exact (h4 i hi).1 j hj
  · rw [k _ _ (by omega)]; exact (h4 i hi).2.1 j hj
theorem im1.eq {T : Tb} {i : Nat} {w u : q_Sm} (h : im1 T i w) (k : ∀ a j, a = 61 + 2 * i ∨ a = 62 + 2 * i ∨ a = 115 → u.1 a j = w.1 a j) : im1 T i u := by
  obtain ⟨m, R, h1, h2, h3, h4, h5, h6⟩ := h
  refine ⟨m, R, h1, ?_, ?_, fun j hj => ⟨fun a ha => ?_, (h4 j hj).2⟩, fun a ha => ?_, fun j hj a ha => ?_⟩
  · rw [k _ _ (by omega)]; exact h2
  · rw [k _ _ (by omega)]; exact h3
  · rw [k _ _ (by omega)]; exact (h4 j hj).1 a ha
  · rw [k _ _ (by omega)]; exact h5 a ha
  · rw [k _ _ (by omega)]; exact h6 j hj a ha
theorem img.eq {T : Tb} {w u : q_Sm} (h : img T w) (k : ∀ i j, (61 ≤ i ∧ i ≤ 66) ∨ i = 115 ∨ (i = 79 ∧ j = 66) ∨ (i = 1 ∧ j = 11) → u.1 i j = w.1 i j) : img T u := by
  obtain ⟨n, h1, h2, h3, h4⟩ := h
  refine ⟨n, h1, ?_, ?_, fun i hi => (h4 i hi).eq (fun a j q => k a j (by omega))⟩
  · rw [k _ _ (by omega)]; exact h2
  · rw [k _ _ (by omega)]; exact h3
theorem tp.eq {w u : q_Sm} (h : tp w) (k : ∀ i j, (i = 2 ∧ j = 1) ∨ i = 3 ∨ i = 81 ∨ (i = 79 ∧ j = 2) → u.1 i j = w.1 i j) : tp u := by
  obtain ⟨n, Y, h1, h2, h3, h4⟩ := h
  refine ⟨n, Y, h1, ?_, ?_, fun i hi => ?_⟩
  · rw [k _ _ (by omega)]; exact h2
  · rw [k _ _ (by omega)]; exact h3
  · rw [k 81 _ (by omega), k 3 _ (by omega)]; exact h4 i hi
theorem Co.eq {T : Tb} {β C : Nat → Nat} {n : Nat} {S B : Nat → Nat} {m : Nat} {w u : q_Sm} (h : Co T β C n S B m w) (h2 : u.2.2 = w.2.2)
    (k : ∀ i j, i < 38 ∨ i = 40 ∨ i = 41 ∨ ((i = 44 ∨ i = 48) ∧ j < 4) ∨ (45 ≤ i ∧ i ≤ 47) ∨ (49 ≤ i ∧ i ≤ 51) ∨ i = 57 ∨ i = 73 ∨ i = 76 ∨ (i = 79 ∧ (29 ≤ j ∧ j ≤ 33 ∨ j = 40 ∨ j = 55)) ∨ (89 ≤ i ∧ i ≤ 95) ∨ i = 98 ∨ i = 99 ∨ i = 104 ∨ i = 108 → u.1 i j = w.1 i j) : Co T β C n S B m u := by
  obtain ⟨a1, a2, a3, a4, a5, a6, a7, a8⟩ := h
  unfold Co ids
  rw [h2]
  exact ⟨a1, a2.eq (fun i j q => k i j (by omega)), a3.eq (fun i j q => k i j (by omega)), a4.eq (fun j => k _ j (by omega)), a5.eq (fun j => k _ j (by omega)), a6, a7.eq (fun i j q => k i j (by omega)), a8.eq h2 (by have := a1.2.2; omega) (fun i j q => k i j (by omega))⟩
theorem scr_lo {i j : Nat} (h : i < 38 ∨ i = 40 ∨ i = 41 ∨ ((i = 44 ∨ i = 48) ∧ j < 4) ∨ (45 ≤ i ∧ i ≤ 47) ∨ (49 ≤ i ∧ i ≤ 66) ∨ i = 73 ∨ i = 76 ∨ (i = 79 ∧ j ≠ 0 ∧ j ≠ 61 ∧ j ≠ 63 ∧ j ≠ 64) ∨ (80 ≤ i ∧ i ≤ 99) ∨ i = 104 ∨ i = 106 ∨ i = 108 ∨ i = 115) : scr i j = false := by
  unfold scr
  simp
  omega
theorem Co.sim {T : Tb} {β C : Nat → Nat} {n : Nat} {S B : Nat → Nat} {m : Nat} {w u : q_Sm} (h : Co T β C n S B m w) (k : sim w u) : Co T β C n S B m u :=
  h.eq k.1.1 (fun i j q => k.2 i j (scr_lo (by omega)))
theorem Inv.sim {w u : q_Sm} (h : Inv w) (k : sim w u) : Inv u := by
  obtain ⟨T, β, C, n, S, B, m, h1, h2, h3, h4, h5⟩ := h
  refine ⟨T, β, C, n, S, B, m, h1.sim k, h2.eq (fun i j q => k.2 i j (scr_lo (by omega))), h3.eq (fun i j q => k.2 i j (scr_lo (by omega))), h4.eq (fun i j q => k.2 i j (scr_lo (by omega))), ?_⟩
  unfold cnt
  rw [k.2 1 13 (scr_lo (by omega)), k.2 1 14 (scr_lo (by omega)), k.2 1 12 (scr_lo (by omega)), k.2 2 6 (scr_lo (by omega)), k.2 80 0 (scr_lo (by omega)), k.2 80 1 (scr_lo (by omega)), k.2 79 46 (scr_lo (by omega)), k.2 79 8 (scr_lo (by omega))]
  exact ⟨h5.1, h5.2.1, h5.2.2.1, h5.2.2.2.1, k.1.2.trans h5.2.2.2.2⟩
