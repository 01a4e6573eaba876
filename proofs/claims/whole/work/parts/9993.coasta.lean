/-! the coast as it is being told -/
def cD (o : Nat) (T : Tb) (w : q_Sm) : Prop := (w.1 o 0 = nI (T 7 0) ∧ w.1 o 3 = nI (T 7 1) ∧ w.1 o 10 = nI (T 7 2) ∧ w.1 o 14 = nI (T 7 3) ∧ w.1 o 18 = nI (T 7 4)) ∧
  (holds (o + 1) (T 7 0) (fun c => T 0 (2 * c)) w ∧ holds (o + 2) (T 7 0) (fun c => T 0 (2 * c + 1)) w) ∧
  (holds (o + 3) (T 7 1) (fun d => T 1 (5 * d)) w ∧ holds (o + 4) (T 7 1) (fun d => T 1 (5 * d + 1)) w ∧ holds (o + 5) (T 7 1) (fun d => T 1 (5 * d + 2)) w ∧ holds (o + 6) (T 7 1) (fun d => T 1 (5 * d + 3)) w ∧ holds (o + 7) (T 7 1) (fun d => T 1 (5 * d + 4)) w) ∧
  holds (o + 9) (4 * T 7 2) (T 2) w ∧ holds (o + 10) 20 (T 3) w ∧ holds (o + 11) 4 (T 4) w ∧ (holds (o + 12) (T 7 3) (fun v => T 5 (3 * v)) w ∧ holds (o + 13) (T 7 3) (fun v => T 5 (3 * v + 1)) w ∧ holds (o + 14) (T 7 3) (fun v => T 5 (3 * v + 2)) w) ∧ holds (o + 15) 36 (T 6) w
def rD (T : Tb) (w : q_Sm) : Prop := (w.1 79 24 = nI (T 7 0) ∧ w.1 79 25 = nI (T 7 1) ∧ w.1 79 26 = nI (T 7 2) ∧ w.1 79 27 = nI (T 7 3) ∧ w.1 79 28 = nI (T 7 4)) ∧
  holds 82 (2 * T 7 0) (T 0) w ∧ holds 83 (5 * T 7 1) (T 1) w ∧ holds 84 (4 * T 7 2) (T 2) w ∧ holds 85 20 (T 3) w ∧ holds 86 4 (T 4) w ∧ holds 87 (3 * T 7 3) (T 5) w ∧ holds 88 36 (T 6) w
theorem holds_m {c n m : Nat} {f f' : Nat → Nat} {w u : q_Sm} (h : holds c n f w) (g : ∀ j, j < n → u.1 c j = w.1 c j) (hf : ∀ j, j < n → f' j = f j) (hv : ∀ j, n ≤ j → j < m → u.1 c j = nI (f' j)) : holds c m f' u := by
  intro j hj
  by_cases q : j < n
  · rw [g j q, hf j q]; exact h j q
  · exact hv j (by omega) hj
theorem holds_1 {c n : Nat} {f f' : Nat → Nat} {w u : q_Sm} (h : holds c n f w) (g : ∀ j, j ≠ n → u.1 c j = w.1 c j) (hf : ∀ j, j < n → f' j = f j) (hv : u.1 c n = nI (f' n)) : holds c (n + 1) f' u :=
  holds_m h (fun j hj => g j (by omega)) hf (fun j h1 h2 => by rw [show j = n by omega]; exact hv)
theorem holds_u {c n k v : Nat} {f : Nat → Nat} {w u : q_Sm} (h : holds c n f w) (g : ∀ j, j ≠ k → u.1 c j = w.1 c j) (hv : u.1 c k = nI v) : holds c n (up f k v) u := by
  intro j hj
  by_cases q : j = k
  · rw [q, up_s]; exact hv
  · rw [up_n q, g j q]; exact h j hj
def aCo (o i j : Nat) : Bool := aTx i j || (decide (o ≤ i) && decide (i ≤ o + 15))
theorem aCo_T {o : Nat} {w u : q_Sm} (h : fr aTx w u) : fr (aCo o) w u := h.mono (fun i j q => by simp [aCo, q])
theorem aCo_i {o i j : Nat} (h1 : o ≤ i) (h2 : i ≤ o + 15) : aCo o i j = true := by simp [aCo, h1, h2]
theorem cD.g {o : Nat} {T : Tb} {w u : q_Sm} (h : cD o T w) (k : ∀ i j, o ≤ i → i ≤ o + 15 → i ≠ o + 8 → ¬ (i = o + 9 ∧ 4 * T 7 2 ≤ j) → u.1 i j = w.1 i j) : cD o T u := by
  obtain ⟨⟨a1, a2, a3, a4, a5⟩, ⟨b1, b2⟩, ⟨c1, c2, c3, c4, c5⟩, e1, e2, e3, ⟨f1, f2, f3⟩, g⟩ := h
  refine ⟨⟨?_, ?_, ?_, ?_, ?_⟩, ⟨b1.eq ?_, b2.eq ?_⟩, ⟨c1.eq ?_, c2.eq ?_, c3.eq ?_, c4.eq ?_, c5.eq ?_⟩, fun j hj => ?_, e2.eq ?_, e3.eq ?_, ⟨f1.eq ?_, f2.eq ?_, f3.eq ?_⟩, g.eq ?_⟩ <;>
    first | (intro j; exact k _ _ (by omega) (by omega) (by omega) (by omega)) | (rw [k _ _ (by omega) (by omega) (by omega) (by omega)]; assumption) | (rw [k _ _ (by omega) (by omega) (by omega) (by omega)]; exact e1 j hj)
theorem cD.T {o : Nat} {T : Tb} {w u : q_Sm} (ho : o = 4 ∨ o = 20) (h : cD o T w) (f : fr aTx w u) : cD o T u := h.g (fun i j q1 _ _ _ => f.2 i j (aTx_l (by omega)))
def aRc (i j : Nat) : Bool := aRx i j || (i == 79 && (decide (24 ≤ j) && decide (j ≤ 28))) || (decide (82 ≤ i) && decide (i ≤ 88))
theorem aRc_x {w u : q_Sm} (h : fr aRx w u) : fr aRc w u := h.mono (fun i j q => by simp [aRc, q])
theorem rD.g {T : Tb} {w u : q_Sm} (h : rD T w) (k : ∀ i j, (i = 79 ∧ 24 ≤ j ∧ j ≤ 28) ∨ (82 ≤ i ∧ i ≤ 88) → u.1 i j = w.1 i j) : rD T u := by
  obtain ⟨⟨a1, a2, a3, a4, a5⟩, b1, b2, b3, b4, b5, b6, b7⟩ := h
  refine ⟨⟨?_, ?_, ?_, ?_, ?_⟩, b1.eq ?_, b2.eq ?_, b3.eq ?_, b4.eq ?_, b5.eq ?_, b6.eq ?_, b7.eq ?_⟩ <;>
    first | (intro j; exact k _ _ (by omega)) | (rw [k _ _ (by omega)]; assumption)
theorem rD.x {T : Tb} {w u : q_Sm} (h : rD T w) (f : fr aRx w u) : rD T u := h.g (fun i j q => f.2 i j (aRx_n (by omega)))
/-- what clauses add -/
def tCred (T : Tb) (x h : Nat) : Tb := fun a => if a = 0 then up (up (T 0) (2 * T 7 0) x) (2 * T 7 0 + 1) h else if a = 7 then up (T 7) 0 (T 7 0 + 1) else T a
def tDebt (T : Tb) (x k n r t : Nat) : Tb := fun a => if a = 1 then up (up (up (up (up (T 1) (5 * T 7 1) x) (5 * T 7 1 + 1) k) (5 * T 7 1 + 2) n) (5 * T 7 1 + 3) r) (5 * T 7 1 + 4) t else if a = 7 then up (T 7) 1 (T 7 1 + 1) else T a
def tDusk (T : Tb) (v : Nat → Nat) : Tb := fun a => if a = 2 then (fun j => if 4 * T 7 2 ≤ j ∧ j < 4 * T 7 2 + 4 then v (j - 4 * T 7 2) else T 2 j) else if a = 7 then up (T 7) 2 (T 7 2 + 1) else T a
def tRidge (T : Tb) (x h : Nat) : Tb := fun a => if a = 3 then up (T 3) x h else T a
def tLamp (T : Tb) (k n : Nat) : Tb := fun a => if a = 4 then up (T 4) k n else T a
def tWed (T : Tb) (k n t : Nat) : Tb := fun a => if a = 5 then up (up (up (T 5) (3 * T 7 3) k) (3 * T 7 3 + 1) n) (3 * T 7 3 + 2) t else if a = 7 then up (T 7) 3 (T 7 3 + 1) else T a
def tFog (T : Tb) (q : Nat) : Tb := fun a => if a = 7 then up (T 7) 4 q else T a
def tOwes (T : Tb) (c d n : Nat) : Tb := fun a => if a = 6 then up (T 6) (6 * c + d) (min 999 (T 6 (6 * c + d) + n)) else T a
theorem tb_cred {T : Tb} {x h : Nat} (ht : tb T) (hr : T 7 0 < 6) (hx : x ≤ 19) (hh : h ≤ 20) : tb (tCred T x h) := by
  obtain ⟨⟨a1, a2, a3, a4, a5⟩, b, c, d, e, f, g, i, j⟩ := ht
  refine ⟨⟨?_, a2, a3, a4, a5⟩, fun k hk => ?_, fun k hk => ?_, d, e, f, g, i, fun k l h1 h2 h3 => ?_⟩
  · show T 7 0 + 1 ≤ 6
    omega
  · have hk : k < T 7 0 + 1 := hk
    show up (up (T 0) (2 * T 7 0) x) (2 * T 7 0 + 1) h (2 * k) < 20 ∧ up (up (T 0) (2 * T 7 0) x) (2 * T 7 0 + 1) h (2 * k + 1) ≤ 20
    by_cases q : k = T 7 0
    · rw [q, up_n (by omega), up_s, up_s]
      omega
    · rw [up_n (by omega), up_n (by omega), up_n (by omega), up_n (by omega)]
      exact b k (by omega)
  · have hc := c k hk
    refine ⟨?_, hc.2⟩
    show T 1 (5 * k) < T 7 0 + 1
    omega
  · have h3 : T 7 0 + 1 ≤ k ∨ T 7 0 + 1 ≤ l := h3
    exact j k l h1 h2 (by omega)
theorem tb_debt {T : Tb} {x k n r t : Nat} (ht : tb T) (hr : T 7 1 < 10) (hx : x < T 7 0) (hk : k < 4) (hn : 1 ≤ n ∧ n ≤ 99) (hr2 : r ≤ 16) (htt : t ≤ 60) : tb (tDebt T x k n r t) := by
  obtain ⟨⟨a1, a2, a3, a4, a5⟩, b, c, d, e, f, g, i, j⟩ := ht
  refine ⟨⟨a1, ?_, a3, a4, a5⟩, b, fun l hl => ?_, d, e, f, g, i, j⟩
  · show T 7 1 + 1 ≤ 10
    omega
  · have hl : l < T 7 1 + 1 := hl
    show up (up (up (up (up (T 1) (5 * T 7 1) x) (5 * T 7 1 + 1) k) (5 * T 7 1 + 2) n) (5 * T 7 1 + 3) r) (5 * T 7 1 + 4) t (5 * l) < T 7 0 ∧ up (up (up (up (up (T 1) (5 * T 7 1) x) (5 * T 7 1 + 1) k) (5 * T 7 1 + 2) n) (5 * T 7 1 + 3) r) (5 * T 7 1 + 4) t (5 * l + 1) < 4 ∧ 1 ≤ up (up (up (up (up (T 1) (5 * T 7 1) x) (5 * T 7 1 + 1) k) (5 * T 7 1 + 2) n) (5 * T 7 1 + 3) r) (5 * T 7 1 + 4) t (5 * l + 2) ∧ up (up (up (up (up (T 1) (5 * T 7 1) x) (5 * T 7 1 + 1) k) (5 * T 7 1 + 2) n) (5 * T 7 1 + 3) r) (5 * T 7 1 + 4) t (5 * l + 2) ≤ 99 ∧ up (up (up (up (up (T 1) (5 * T 7 1) x) (5 * T 7 1 + 1) k) (5 * T 7 1 + 2) n) (5 * T 7 1 + 3) r) (5 * T 7 1 + 4) t (5 * l + 3) ≤ 16 ∧ up (up (up (up (up (T 1) (5 * T 7 1) x) (5 * T 7 1 + 1) k) (5 * T 7 1 + 2) n) (5 * T 7 1 + 3) r) (5 * T 7 1 + 4) t (5 * l + 4) ≤ 60
    have hl2 : l = T 7 1 ∨ l < T 7 1 := by omega
    rcases hl2 with q | q
    · subst q
      simp only [up]
      simp
      omega
    · have := c l q
      simp only [up]
      rw [if_neg (by omega), if_neg (by omega), if_neg (by omega), if_neg (by omega), if_neg (by omega), if_neg (by omega), if_neg (by omega), if_neg (by omega), if_neg (by omega), if_neg (by omega), if_neg (by omega), if_neg (by omega), if_neg (by omega), if_neg (by omega), if_neg (by omega), if_neg (by omega), if_neg (by omega), if_neg (by omega), if_neg (by omega), if_neg (by omega), if_neg (by omega), if_neg (by omega), if_neg (by omega), if_neg (by omega), if_neg (by omega)]
      exact this
theorem tb_dusk {T : Tb} {v : Nat → Nat} (ht : tb T) (hr : T 7 2 < 12) (hv : ∀ k, k < 4 → v k ≤ 40) : tb (tDusk T v) := by
  obtain ⟨⟨a1, a2, a3, a4, a5⟩, b, c, d, e, f, g, i, j⟩ := ht
  refine ⟨⟨a1, a2, ?_, a4, a5⟩, b, c, fun k hk => ?_, e, f, g, i, j⟩
  · show T 7 2 + 1 ≤ 12
    omega
  · have hk : k < 4 * (T 7 2 + 1) := hk
    show (if 4 * T 7 2 ≤ k ∧ k < 4 * T 7 2 + 4 then v (k - 4 * T 7 2) else T 2 k) ≤ 40
    by_cases q : 4 * T 7 2 ≤ k ∧ k < 4 * T 7 2 + 4
    · rw [if_pos q]
      exact hv _ (by omega)
    · rw [if_neg q]
      exact d k (by omega)
theorem tb_ridge {T : Tb} {x h : Nat} (ht : tb T) (hh : h ≤ 20) : tb (tRidge T x h) := by
  obtain ⟨a, b, c, d, e, f, g, i, j⟩ := ht
  refine ⟨a, b, c, d, fun k hk => ?_, f, g, i, j⟩
  show up (T 3) x h k ≤ 20
  by_cases q : k = x
  · rw [q, up_s]; exact hh
  · rw [up_n q]; exact e k hk
theorem tb_lamp {T : Tb} {x h : Nat} (ht : tb T) (hh : h ≤ 99) : tb (tLamp T x h) := by
  obtain ⟨a, b, c, d, e, f, g, i, j⟩ := ht
  refine ⟨a, b, c, d, e, fun k hk => ?_, g, i, j⟩
  show up (T 4) x h k ≤ 99
  by_cases q : k = x
  · rw [q, up_s]; exact hh
  · rw [up_n q]; exact f k hk
theorem tb_wed {T : Tb} {k n t : Nat} (ht : tb T) (hr : T 7 3 < 6) (hk : k < 4) (hn : 1 ≤ n ∧ n ≤ 40) (htt : t ≤ 60) : tb (tWed T k n t) := by
  obtain ⟨⟨a1, a2, a3, a4, a5⟩, b, c, d, e, f, g, i, j⟩ := ht
  refine ⟨⟨a1, a2, a3, ?_, a5⟩, b, c, d, e, f, fun l hl => ?_, i, j⟩
  · show T 7 3 + 1 ≤ 6
    omega
  · have hl : l < T 7 3 + 1 := hl
    show up (up (up (T 5) (3 * T 7 3) k) (3 * T 7 3 + 1) n) (3 * T 7 3 + 2) t (3 * l) < 4 ∧ 1 ≤ up (up (up (T 5) (3 * T 7 3) k) (3 * T 7 3 + 1) n) (3 * T 7 3 + 2) t (3 * l + 1) ∧ up (up (up (T 5) (3 * T 7 3) k) (3 * T 7 3 + 1) n) (3 * T 7 3 + 2) t (3 * l + 1) ≤ 40 ∧ up (up (up (T 5) (3 * T 7 3) k) (3 * T 7 3 + 1) n) (3 * T 7 3 + 2) t (3 * l + 2) ≤ 60
    have hl2 : l = T 7 3 ∨ l < T 7 3 := by omega
    rcases hl2 with q | q
    · subst q
      simp only [up]
      simp
      omega
    · have := g l q
      simp only [up]
      rw [if_neg (by omega), if_neg (by omega), if_neg (by omega), if_neg (by omega), if_neg (by omega), if_neg (by omega), if_neg (by omega), if_neg (by omega), if_neg (by omega)]
      exact this
theorem tb_fog {T : Tb} {q : Nat} (ht : tb T) (hq : q ≤ 16) : tb (tFog T q) := by
  obtain ⟨⟨a1, a2, a3, a4, a5⟩, b, c, d, e, f, g, i, j⟩ := ht
  exact ⟨⟨a1, a2, a3, a4, hq⟩, b, c, d, e, f, g, i, j⟩
theorem tb_owes {T : Tb} {c d n : Nat} (ht : tb T) (hc : c < T 7 0) (hd : d < T 7 0) : tb (tOwes T c d n) := by
  obtain ⟨⟨a1, a2, a3, a4, a5⟩, b, c', d', e, f, g, i, j⟩ := ht
  refine ⟨⟨a1, a2, a3, a4, a5⟩, b, c', d', e, f, g, fun k hk => ?_, fun k l h1 h2 h3 => ?_⟩
  · show up (T 6) (6 * c + d) (min 999 (T 6 (6 * c + d) + n)) k ≤ 999
    by_cases q : k = 6 * c + d
    · rw [q, up_s]; omega
    · rw [up_n q]; exact i k hk
  · show up (T 6) (6 * c + d) (min 999 (T 6 (6 * c + d) + n)) (6 * k + l) = 0
    have h3 : T 7 0 ≤ k ∨ T 7 0 ≤ l := h3
    rw [up_n (by omega)]
    exact j k l h1 h2 h3
