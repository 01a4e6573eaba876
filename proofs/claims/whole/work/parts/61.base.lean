/-! numbers, memories, frames -/
theorem s_Ii {Q : Int32 → q_Sm → Prop} {v : Int32} {w : q_Sm} : s_I Q (some (.int v)) w = Q v w :=
  propext ⟨fun ⟨_, h1, h2⟩ => by cases h1; exact h2, fun h => ⟨_, rfl, h⟩⟩
theorem s_Jj {Q : Int64 → q_Sm → Prop} {v : Int64} {w : q_Sm} : s_J Q (some (.long v)) w = Q v w :=
  propext ⟨fun ⟨_, h1, h2⟩ => by cases h1; exact h2, fun h => ⟨_, rfl, h⟩⟩
theorem s_Vn {Q : q_Sm → Prop} {w : q_Sm} : s_V Q none w = Q w := propext ⟨fun h => h.2, fun h => ⟨rfl, h⟩⟩
theorem cI {d a : Nat} {M : q_Mt} {w : q_Sm} {As : List Value} {Q1 Q2 : Int32 → q_Sm → Prop} {X : s_Xo} (h : s_EvI d a M w As Q1 X) (k : ∀ v u, Q1 v u → Q2 v u) : s_EvI d a M w As Q2 X :=
  s_mono h (fun _ _ ⟨v, h1, h2⟩ => ⟨v, h1, k _ _ h2⟩) (fun _ _ h => h)
theorem cV {d a : Nat} {M : q_Mt} {w : q_Sm} {As : List Value} {Q1 Q2 : q_Sm → Prop} {X : s_Xo} (h : s_EvV d a M w As Q1 X) (k : ∀ u, Q1 u → Q2 u) : s_EvV d a M w As Q2 X :=
  s_mono h (fun _ _ ⟨h1, h2⟩ => ⟨h1, k _ h2⟩) (fun _ _ h => h)
def oI : Option Nat → Int32
  | none => -1
  | some n => nI n
theorem L_m1 : (-1 : Int32) = oI none := rfl
theorem oI_s (n : Nat) : oI (some n) = nI n := rfl
theorem oI_n {n : Nat} (h : n < 2 ^ 31) : (nI n = oI none) ↔ False := by
  refine ⟨fun e => ?_, False.elim⟩
  have h1 := nI_pos h
  rw [e] at h1
  exact h1 (by decide)
theorem vp_nI {n N : Nat} (h : n < 2 ^ 31) : vp_in (nI n) N ↔ n < N := by
  unfold vp_in
  rw [nI_clamp h]
  refine ⟨fun q => ?_, fun q => ?_⟩
  · rcases Nat.lt_or_ge n N with z | z
    · exact z
    · exact absurd (Or.inr z) q
  · rintro (z | z)
    · exact nI_pos h z
    · omega
theorem rd_s {w : q_Sm} {a k : Nat} {v : Int32} : (q_wI w a k v).1 a k = v := by simp [q_wI, q_up]
theorem rd_j {w : q_Sm} {a k i j : Nat} {v : Int32} (h : j ≠ k) : (q_wI w a k v).1 i j = w.1 i j := by simp [q_wI, q_up, h]
theorem rd_i {w : q_Sm} {a k i j : Nat} {v : Int32} (h : i ≠ a) : (q_wI w a k v).1 i j = w.1 i j := by simp [q_wI, q_up, h]
theorem rd_e {w : q_Sm} {a k i j : Nat} {v : Int32} : (q_wI w a k v).1 i j = if i = a then (if j = k then v else w.1 i j) else w.1 i j := rfl
theorem wr_2 {w : q_Sm} {a k : Nat} {v : Int32} : (q_wI w a k v).2 = w.2 := rfl
theorem wrJ_1 {w : q_Sm} {a k : Nat} {v : Int64} : (q_wJ w a k v).1 = w.1 := rfl
theorem wrJ_3 {w : q_Sm} {a k : Nat} {v : Int64} : (q_wJ w a k v).2.2 = w.2.2 := rfl
/-- nothing is changed but what A names -/
def fr (A : Nat → Nat → Bool) (w u : q_Sm) : Prop := u.2 = w.2 ∧ ∀ i j, A i j = false → u.1 i j = w.1 i j
theorem fr.refl (A : Nat → Nat → Bool) (w : q_Sm) : fr A w w := ⟨rfl, fun _ _ _ => rfl⟩
theorem fr.trans {A : Nat → Nat → Bool} {w u v : q_Sm} (h : fr A w u) (k : fr A u v) : fr A w v := ⟨k.1.trans h.1, fun i j q => (k.2 i j q).trans (h.2 i j q)⟩
theorem fr.mono {A B : Nat → Nat → Bool} {w u : q_Sm} (h : fr A w u) (k : ∀ i j, A i j = true → B i j = true) : fr B w u := ⟨h.1, fun i j q => h.2 i j (by
  cases e : A i j with
  | false => rfl
  | true => rw [k i j e] at q; cases q)⟩
theorem fr.put {A : Nat → Nat → Bool} {w u : q_Sm} {a k : Nat} {v : Int32} (h : fr A w u) (hA : A a k = true) : fr A w (q_wI u a k v) := ⟨h.1, fun i j q => by
  rw [rd_e]
  split
  · rename_i e
    split
    · rename_i e2
      rw [e, e2, hA] at q
      cases q
    · exact h.2 i j q
  · exact h.2 i j q⟩
theorem fr.wr {A : Nat → Nat → Bool} {w : q_Sm} {a k : Nat} {v : Int32} (hA : A a k = true) : fr A w (q_wI w a k v) := (fr.refl A w).put hA
theorem pm_0 {d : Nat} (h : d < 20) : pm d = d := by unfold pm; rw [if_pos h]
theorem pm_20 {d : Nat} (h : d < 10) : pm (20 + d) = 30 + d := by unfold pm; (repeat' split) <;> omega
theorem pm_30 {d : Nat} (h : d < 10) : pm (30 + d) = 40 + d := by unfold pm; (repeat' split) <;> omega
theorem pm_40 {d : Nat} (h : d < 10) : pm (40 + d) = 20 + d := by unfold pm; (repeat' split) <;> omega
theorem pm_50 {d : Nat} (h : d < 4) : pm (50 + d) = 50 + d := by unfold pm; (repeat' split) <;> omega
theorem pm_54 {d : Nat} (h : d < 4) : pm (54 + d) = 54 + d := by unfold pm; (repeat' split) <;> omega
theorem pm_58 : pm 58 = 62 := rfl
/-- rows: the class's, the reference's -/
def cR (c : Nat) (S : Nat → Nat) (w : q_Sm) : Prop := ∀ k, k < 59 → w.1 c k = nI (S (pm k))
def rR (c : Nat) (S : Nat → Nat) (w : q_Sm) : Prop := ∀ k, k < 63 → w.1 c k = nI (S k)
/-- what a row keeps to -/
def rb (T : Tb) (S : Nat → Nat) : Prop := (∀ d, d < T 7 1 → S d ≤ 9999 ∧ S (10 + d) < T 7 0 ∧ S (20 + d) ≤ 1) ∧ (∀ k, k < 4 → S (50 + k) ≤ 40 + S (54 + k) ∧ S (54 + k) ≤ T 4 k) ∧ S 62 ≤ 10000
def up (S : Nat → Nat) (k v : Nat) : Nat → Nat := fun j => if j = k then v else S j
/-- law codes: figures, facts 1000.., joins 2002.. -/
def cc (c : Nat) : Int32 := if c < 1000 then nI c else if c < 1007 then -(nI (c - 999)) else -(nI (c - 1994))
def jn (op : Nat) (a b : Int32) : Int32 := if op = 2 then a + b else if op = 3 then a - b else if op = 4 then a * b else if op = 5 then (if b = 0 then 0 else a / b) else if op = 6 then (if a < b then a else b) else (if b < a then a else b)
def dp (C : Nat → Nat) : Nat → Nat
  | 0 => 0
  | k + 1 => if C k < 2000 then dp C k + 1 else dp C k - 1
def stk (C : Nat → Nat) (f : Nat → Int32) : Nat → Nat → Int32
  | 0 => fun _ => 0
  | k + 1 => if C k < 1000 then (fun i => if i = dp C k then nI (C k) else stk C f k i) else if C k < 2000 then (fun i => if i = dp C k then f (C k - 1000) else stk C f k i)
      else (fun i => if i = dp C k - 2 then jn (C k - 2000) (stk C f k (dp C k - 2)) (stk C f k (dp C k - 1)) else stk C f k i)
def lwf (C : Nat → Nat) (n : Nat) : Prop := (0 < n ∧ n ≤ 150) ∧ (∀ k, k < n → (C k < 1007 ∨ (2002 ≤ C k ∧ C k ≤ 2007 ∧ 2 ≤ dp C k)) ∧ dp C k < 40) ∧ 0 < dp C n
def clp (v : Int32) : Int32 := if v < 0 then 0 else if 99 < v then 99 else v
/-- what grows by the law -/
def gv (C : Nat → Nat) (n : Nat) (f : Nat → Int32) : Nat := (clp (stk C f n 0)).toNatClampNeg
theorem clp_n (v : Int32) : ∃ g : Nat, g ≤ 99 ∧ clp v = nI g := by
  unfold clp
  split
  · exact ⟨0, by omega, rfl⟩
  · rename_i h
    split
    · exact ⟨99, by omega, rfl⟩
    · rename_i h2
      obtain ⟨j, hj, rfl⟩ := nI_of h
      refine ⟨j, ?_, rfl⟩
      rw [show (99 : Int32) = nI 99 from rfl, nI_ltI (by omega) hj] at h2
      omega
theorem gv_le (C : Nat → Nat) (n : Nat) (f : Nat → Int32) : gv C n f ≤ 99 := by
  obtain ⟨g, h1, h2⟩ := clp_n (stk C f n 0)
  unfold gv
  rw [h2, nI_clamp (by omega)]
  exact h1
theorem gv_n (C : Nat → Nat) (n : Nat) (f : Nat → Int32) : clp (stk C f n 0) = nI (gv C n f) := by
  obtain ⟨g, h1, h2⟩ := clp_n (stk C f n 0)
  unfold gv
  rw [h2, nI_clamp (by omega)]
/-- the class's law, the reference's -/
def cL (l : Nat) (C : Nat → Nat) (n : Nat) (w : q_Sm) : Prop := w.1 l 1 = nI n ∧ ∀ k, k < n → w.1 (l + 1) k = cc (C k)
def plC (k : Nat) : Nat := if k = 0 then 1000 else if k = 1 then 1001 else if k = 2 then 2004 else if k = 3 then 16 else 2005
def r1 (c : Nat) : Nat := if c < 1000 then 0 else if c < 1007 then 1 else c - 2000
def r2 (c : Nat) : Nat := if c < 1000 then c else c - 1000
def rL (C : Nat → Nat) (n : Nat) (w : q_Sm) : Prop := (w.1 79 40 = nI 0 ∧ n = 5 ∧ C = plC) ∨
  (w.1 79 40 = nI n ∧ ∀ k, k < n → w.1 98 k = nI (r1 (C k)) ∧ (C k < 1007 → w.1 99 k = nI (r2 (C k))))
/-- what class and reference are told -/
def KE (o l : Nat) (T : Tb) (β : Nat → Nat) (C : Nat → Nat) (n : Nat) (w : q_Sm) : Prop := (o = 4 ∨ o = 20) ∧ (l = 36 ∨ l = 40) ∧ tb T ∧ cT o T β w ∧ lwf C n ∧ cL l C n w
def RE (T : Tb) (C : Nat → Nat) (n : Nat) (w : q_Sm) : Prop := tb T ∧ rT T w ∧ lwf C n ∧ rL C n w
theorem holds.eq {c n : Nat} {f : Nat → Nat} {w u : q_Sm} (h : holds c n f w) (k : ∀ j, u.1 c j = w.1 c j) : holds c n f u := fun j hj => (k j).trans (h j hj)
theorem cT.eq {o : Nat} {T : Tb} {β : Nat → Nat} {w u : q_Sm} (h : cT o T β w) (k : ∀ i j, i ≤ o + 15 → o ≤ i → u.1 i j = w.1 i j) : cT o T β u := by
  obtain ⟨⟨a1, a2, a3, a4, a5⟩, ⟨b1, b2⟩, ⟨c1, c2, c3, c4, c5, c6, c7⟩, e1, e2, e3, ⟨f1, f2, f3⟩, g⟩ := h
  refine ⟨⟨?_, ?_, ?_, ?_, ?_⟩, ⟨b1.eq ?_, b2.eq ?_⟩, ⟨c1.eq ?_, c2.eq ?_, c3.eq ?_, c4.eq ?_, c5.eq ?_, c6.eq ?_, c7⟩, e1.eq ?_, e2.eq ?_, e3.eq ?_, ⟨f1.eq ?_, f2.eq ?_, f3.eq ?_⟩, g.eq ?_⟩ <;>
    first | (intro j; exact k _ _ (by omega) (by omega)) | (rw [k _ _ (by omega) (by omega)]; assumption)
theorem KE.eq {o l n : Nat} {T : Tb} {β C : Nat → Nat} {w u : q_Sm} (h : KE o l T β C n w) (k : ∀ i j, i < 38 ∨ i = 40 ∨ i = 41 → u.1 i j = w.1 i j) : KE o l T β C n u := by
  obtain ⟨h1, h2, h3, h4, h5, h6, h7⟩ := h
  exact ⟨h1, h2, h3, h4.eq (fun i j _ _ => k i j (by omega)), h5, (k _ _ (by omega)).trans h6, fun j hj => (k _ _ (by omega)).trans (h7 j hj)⟩
theorem rT.eq {T : Tb} {w u : q_Sm} (h : rT T w) (k : ∀ i j, (i = 79 ∧ 29 ≤ j ∧ j ≤ 33) ∨ (89 ≤ i ∧ i ≤ 95) → u.1 i j = w.1 i j) : rT T u := by
  obtain ⟨⟨a1, a2, a3, a4, a5⟩, b1, b2, b3, b4, b5, b6, b7⟩ := h
  refine ⟨⟨?_, ?_, ?_, ?_, ?_⟩, b1.eq ?_, b2.eq ?_, b3.eq ?_, b4.eq ?_, b5.eq ?_, b6.eq ?_, b7.eq ?_⟩ <;>
    first | (intro j; exact k _ _ (by omega)) | (rw [k _ _ (by omega)]; assumption)
theorem RE.eq {n : Nat} {T : Tb} {C : Nat → Nat} {w u : q_Sm} (h : RE T C n w) (k : ∀ i j, (i = 79 ∧ (29 ≤ j ∧ j ≤ 33 ∨ j = 40)) ∨ (89 ≤ i ∧ i ≤ 95) ∨ i = 98 ∨ i = 99 → u.1 i j = w.1 i j) : RE T C n u := by
  obtain ⟨h1, h2, h3, h4⟩ := h
  refine ⟨h1, h2.eq (fun i j q => k i j (by omega)), h3, ?_⟩
  unfold rL
  rw [k 79 40 (by omega)]
  refine h4.imp id (fun q => ⟨q.1, fun j hj => ?_⟩)
  rw [k 98 j (by omega), k 99 j (by omega)]
  exact q.2 j hj
theorem L_0 : (0 : Int32) = nI 0 := rfl
theorem L_1 : (1 : Int32) = nI 1 := rfl
theorem L_2 : (2 : Int32) = nI 2 := rfl
theorem L_3 : (3 : Int32) = nI 3 := rfl
theorem L_4 : (4 : Int32) = nI 4 := rfl
theorem L_5 : (5 : Int32) = nI 5 := rfl
theorem L_6 : (6 : Int32) = nI 6 := rfl
theorem L_7 : (7 : Int32) = nI 7 := rfl
theorem L_8 : (8 : Int32) = nI 8 := rfl
theorem L_9 : (9 : Int32) = nI 9 := rfl
theorem L_10 : (10 : Int32) = nI 10 := rfl
theorem L_11 : (11 : Int32) = nI 11 := rfl
theorem L_12 : (12 : Int32) = nI 12 := rfl
theorem L_13 : (13 : Int32) = nI 13 := rfl
theorem L_14 : (14 : Int32) = nI 14 := rfl
theorem L_15 : (15 : Int32) = nI 15 := rfl
theorem L_16 : (16 : Int32) = nI 16 := rfl
theorem L_17 : (17 : Int32) = nI 17 := rfl
theorem L_18 : (18 : Int32) = nI 18 := rfl
theorem L_19 : (19 : Int32) = nI 19 := rfl
theorem L_20 : (20 : Int32) = nI 20 := rfl
theorem L_24 : (24 : Int32) = nI 24 := rfl
theorem L_27 : (27 : Int32) = nI 27 := rfl
theorem L_30 : (30 : Int32) = nI 30 := rfl
theorem L_31 : (31 : Int32) = nI 31 := rfl
theorem L_32 : (32 : Int32) = nI 32 := rfl
theorem L_35 : (35 : Int32) = nI 35 := rfl
theorem L_36 : (36 : Int32) = nI 36 := rfl
theorem L_40 : (40 : Int32) = nI 40 := rfl
theorem L_41 : (41 : Int32) = nI 41 := rfl
theorem L_43 : (43 : Int32) = nI 43 := rfl
theorem L_44 : (44 : Int32) = nI 44 := rfl
theorem L_45 : (45 : Int32) = nI 45 := rfl
theorem L_46 : (46 : Int32) = nI 46 := rfl
theorem L_47 : (47 : Int32) = nI 47 := rfl
theorem L_48 : (48 : Int32) = nI 48 := rfl
theorem L_50 : (50 : Int32) = nI 50 := rfl
theorem L_54 : (54 : Int32) = nI 54 := rfl
theorem L_57 : (57 : Int32) = nI 57 := rfl
theorem L_58 : (58 : Int32) = nI 58 := rfl
theorem L_59 : (59 : Int32) = nI 59 := rfl
theorem L_60 : (60 : Int32) = nI 60 := rfl
theorem L_61 : (61 : Int32) = nI 61 := rfl
theorem L_62 : (62 : Int32) = nI 62 := rfl
theorem L_63 : (63 : Int32) = nI 63 := rfl
theorem L_91 : (91 : Int32) = nI 91 := rfl
theorem L_93 : (93 : Int32) = nI 93 := rfl
theorem L_96 : (96 : Int32) = nI 96 := rfl
theorem L_97 : (97 : Int32) = nI 97 := rfl
theorem L_98 : (98 : Int32) = nI 98 := rfl
theorem L_99 : (99 : Int32) = nI 99 := rfl
theorem L_100 : (100 : Int32) = nI 100 := rfl
theorem L_103 : (103 : Int32) = nI 103 := rfl
theorem L_122 : (122 : Int32) = nI 122 := rfl
theorem L_145 : (145 : Int32) = nI 145 := rfl
theorem L_150 : (150 : Int32) = nI 150 := rfl
theorem L_200 : (200 : Int32) = nI 200 := rfl
theorem L_255 : (255 : Int32) = nI 255 := rfl
theorem L_600 : (600 : Int32) = nI 600 := rfl
theorem L_999 : (999 : Int32) = nI 999 := rfl
theorem L_1000 : (1000 : Int32) = nI 1000 := rfl
theorem L_2000 : (2000 : Int32) = nI 2000 := rfl
theorem L_9999 : (9999 : Int32) = nI 9999 := rfl
theorem L_10000 : (10000 : Int32) = nI 10000 := rfl
theorem L_32767 : (32767 : Int32) = nI 32767 := rfl
theorem L_12345 : (12345 : Int32) = nI 12345 := rfl
theorem ia_0 {o : Nat} (h : o = 4 ∨ o = 20) : q_id 116 2 o := by rcases h with rfl | rfl <;> exact q_id_of rfl
theorem ia_1 {o : Nat} (h : o = 4 ∨ o = 20) : q_id 116 14 (o + 1) := by rcases h with rfl | rfl <;> exact q_id_of rfl
theorem za_1 {o : Nat} (h : o = 4 ∨ o = 20) : (q_sh (o + 1)).2 = 6 := by rcases h with rfl | rfl <;> rfl
theorem ia_2 {o : Nat} (h : o = 4 ∨ o = 20) : q_id 116 14 (o + 2) := by rcases h with rfl | rfl <;> exact q_id_of rfl
theorem za_2 {o : Nat} (h : o = 4 ∨ o = 20) : (q_sh (o + 2)).2 = 6 := by rcases h with rfl | rfl <;> rfl
theorem ia_3 {o : Nat} (h : o = 4 ∨ o = 20) : q_id 116 14 (o + 3) := by rcases h with rfl | rfl <;> exact q_id_of rfl
theorem za_3 {o : Nat} (h : o = 4 ∨ o = 20) : (q_sh (o + 3)).2 = 10 := by rcases h with rfl | rfl <;> rfl
theorem ia_4 {o : Nat} (h : o = 4 ∨ o = 20) : q_id 116 14 (o + 4) := by rcases h with rfl | rfl <;> exact q_id_of rfl
theorem za_4 {o : Nat} (h : o = 4 ∨ o = 20) : (q_sh (o + 4)).2 = 10 := by rcases h with rfl | rfl <;> rfl
theorem ia_5 {o : Nat} (h : o = 4 ∨ o = 20) : q_id 116 14 (o + 5) := by rcases h with rfl | rfl <;> exact q_id_of rfl
theorem za_5 {o : Nat} (h : o = 4 ∨ o = 20) : (q_sh (o + 5)).2 = 10 := by rcases h with rfl | rfl <;> rfl
theorem ia_6 {o : Nat} (h : o = 4 ∨ o = 20) : q_id 116 14 (o + 6) := by rcases h with rfl | rfl <;> exact q_id_of rfl
theorem za_6 {o : Nat} (h : o = 4 ∨ o = 20) : (q_sh (o + 6)).2 = 10 := by rcases h with rfl | rfl <;> rfl
theorem ia_7 {o : Nat} (h : o = 4 ∨ o = 20) : q_id 116 14 (o + 7) := by rcases h with rfl | rfl <;> exact q_id_of rfl
theorem za_7 {o : Nat} (h : o = 4 ∨ o = 20) : (q_sh (o + 7)).2 = 10 := by rcases h with rfl | rfl <;> rfl
theorem ia_8 {o : Nat} (h : o = 4 ∨ o = 20) : q_id 116 14 (o + 8) := by rcases h with rfl | rfl <;> exact q_id_of rfl
theorem za_8 {o : Nat} (h : o = 4 ∨ o = 20) : (q_sh (o + 8)).2 = 10 := by rcases h with rfl | rfl <;> rfl
theorem ia_9 {o : Nat} (h : o = 4 ∨ o = 20) : q_id 116 14 (o + 9) := by rcases h with rfl | rfl <;> exact q_id_of rfl
theorem za_9 {o : Nat} (h : o = 4 ∨ o = 20) : (q_sh (o + 9)).2 = 48 := by rcases h with rfl | rfl <;> rfl
theorem ia_10 {o : Nat} (h : o = 4 ∨ o = 20) : q_id 116 14 (o + 10) := by rcases h with rfl | rfl <;> exact q_id_of rfl
theorem za_10 {o : Nat} (h : o = 4 ∨ o = 20) : (q_sh (o + 10)).2 = 20 := by rcases h with rfl | rfl <;> rfl
theorem ia_11 {o : Nat} (h : o = 4 ∨ o = 20) : q_id 116 14 (o + 11) := by rcases h with rfl | rfl <;> exact q_id_of rfl
theorem za_11 {o : Nat} (h : o = 4 ∨ o = 20) : (q_sh (o + 11)).2 = 4 := by rcases h with rfl | rfl <;> rfl
theorem ia_12 {o : Nat} (h : o = 4 ∨ o = 20) : q_id 116 14 (o + 12) := by rcases h with rfl | rfl <;> exact q_id_of rfl
theorem za_12 {o : Nat} (h : o = 4 ∨ o = 20) : (q_sh (o + 12)).2 = 6 := by rcases h with rfl | rfl <;> rfl
theorem ia_13 {o : Nat} (h : o = 4 ∨ o = 20) : q_id 116 14 (o + 13) := by rcases h with rfl | rfl <;> exact q_id_of rfl
theorem za_13 {o : Nat} (h : o = 4 ∨ o = 20) : (q_sh (o + 13)).2 = 6 := by rcases h with rfl | rfl <;> rfl
theorem ia_14 {o : Nat} (h : o = 4 ∨ o = 20) : q_id 116 14 (o + 14) := by rcases h with rfl | rfl <;> exact q_id_of rfl
theorem za_14 {o : Nat} (h : o = 4 ∨ o = 20) : (q_sh (o + 14)).2 = 6 := by rcases h with rfl | rfl <;> rfl
theorem ia_15 {o : Nat} (h : o = 4 ∨ o = 20) : q_id 116 14 (o + 15) := by rcases h with rfl | rfl <;> exact q_id_of rfl
theorem za_15 {o : Nat} (h : o = 4 ∨ o = 20) : (q_sh (o + 15)).2 = 36 := by rcases h with rfl | rfl <;> rfl
theorem ib_0 {o : Nat} (h : o = 56 ∨ o = 68) : q_id 116 6 o := by rcases h with rfl | rfl <;> exact q_id_of rfl
theorem ib_1 {o : Nat} (h : o = 56 ∨ o = 68) : q_id 116 14 (o + 1) := by rcases h with rfl | rfl <;> exact q_id_of rfl
theorem zb_1 {o : Nat} (h : o = 56 ∨ o = 68) : (q_sh (o + 1)).2 = 59 := by rcases h with rfl | rfl <;> rfl
theorem ic_1 {o : Nat} (h : o = 36 ∨ o = 40) : q_id 116 14 (o + 1) := by rcases h with rfl | rfl <;> exact q_id_of rfl
theorem zc_1 {o : Nat} (h : o = 36 ∨ o = 40) : (q_sh (o + 1)).2 = 150 := by rcases h with rfl | rfl <;> rfl
theorem ic_2 {o : Nat} (h : o = 36 ∨ o = 40) : q_id 116 14 (o + 2) := by rcases h with rfl | rfl <;> exact q_id_of rfl
theorem zc_2 {o : Nat} (h : o = 36 ∨ o = 40) : (q_sh (o + 2)).2 = 7 := by rcases h with rfl | rfl <;> rfl
theorem ic_3 {o : Nat} (h : o = 36 ∨ o = 40) : q_id 116 14 (o + 3) := by rcases h with rfl | rfl <;> exact q_id_of rfl
theorem zc_3 {o : Nat} (h : o = 36 ∨ o = 40) : (q_sh (o + 3)).2 = 40 := by rcases h with rfl | rfl <;> rfl
theorem ic_0 {o : Nat} (h : o = 36 ∨ o = 40) : q_id 116 5 o := by rcases h with rfl | rfl <;> exact q_id_of rfl
theorem id_1 {o : Nat} (h : o = 44 ∨ o = 48) : q_id 116 14 (o + 1) := by rcases h with rfl | rfl <;> exact q_id_of rfl
theorem zd_1 {o : Nat} (h : o = 44 ∨ o = 48) : (q_sh (o + 1)).2 = 10 := by rcases h with rfl | rfl <;> rfl
theorem id_2 {o : Nat} (h : o = 44 ∨ o = 48) : q_id 116 14 (o + 2) := by rcases h with rfl | rfl <;> exact q_id_of rfl
theorem zd_2 {o : Nat} (h : o = 44 ∨ o = 48) : (q_sh (o + 2)).2 = 10 := by rcases h with rfl | rfl <;> rfl
theorem id_3 {o : Nat} (h : o = 44 ∨ o = 48) : q_id 116 14 (o + 3) := by rcases h with rfl | rfl <;> exact q_id_of rfl
theorem zd_3 {o : Nat} (h : o = 44 ∨ o = 48) : (q_sh (o + 3)).2 = 10 := by rcases h with rfl | rfl <;> rfl
theorem id_0 {o : Nat} (h : o = 44 ∨ o = 48) : q_id 116 1 o := by rcases h with rfl | rfl <;> exact q_id_of rfl
