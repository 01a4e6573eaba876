/-! rows: what is read and written, on both sides -/
theorem up_s (S : Nat → Nat) (k v : Nat) : up S k v k = v := by simp [up]
theorem up_n {S : Nat → Nat} {k v j : Nat} (h : j ≠ k) : up S k v j = S j := by simp [up, h]
theorem up_id (S : Nat → Nat) (k : Nat) : up S k (S k) = S := by
  funext j
  unfold up
  split
  · rename_i h; rw [h]
  · rfl
theorem rR.put {c : Nat} {S : Nat → Nat} {w : q_Sm} {k v : Nat} (h : rR c S w) : rR c (up S k v) (q_wI w c k (nI v)) := fun j hj => by
  rw [rd_e, if_pos rfl]
  unfold up
  split
  · rfl
  · exact h j hj
theorem pm_inj {j k : Nat} (hj : j < 59) (hk : k < 59) (h : pm j = pm k) : j = k := by
  unfold pm at h
  split at h <;> split at h <;> (try split at h) <;> (try split at h) <;> (try split at h) <;> (try split at h) <;> (try split at h) <;> (try split at h) <;> omega
theorem cR.put {c : Nat} {S : Nat → Nat} {w : q_Sm} {k k' v : Nat} (h : cR c S w) (hk : k < 59) (e : pm k = k') : cR c (up S k' v) (q_wI w c k (nI v)) := fun j hj => by
  rw [rd_e, if_pos rfl]
  unfold up
  split
  · rename_i q
    rw [if_pos (by rw [q]; exact e)]
  · rename_i q
    rw [if_neg (fun z => q (pm_inj hj hk (z.trans e.symm)))]
    exact h j hj
theorem pm_ne {k j : Nat} (h : 58 ≤ j) (h2 : j < 62) : pm k ≠ j := by
  unfold pm
  split
  · omega
  · split
    · omega
    · split
      · omega
      · split <;> omega
theorem cR.skip {c : Nat} {S : Nat → Nat} {w : q_Sm} {k' v : Nat} (h : cR c S w) (h1 : 58 ≤ k') (h2 : k' < 62) : cR c (up S k' v) w := fun j hj => by
  rw [up_n (pm_ne h1 h2)]
  exact h j hj
theorem rR.eq {c : Nat} {S : Nat → Nat} {w u : q_Sm} (h : rR c S w) (k : ∀ j, u.1 c j = w.1 c j) : rR c S u := fun j hj => (k j).trans (h j hj)
theorem cR.eq {c : Nat} {S : Nat → Nat} {w u : q_Sm} (h : cR c S w) (k : ∀ j, u.1 c j = w.1 c j) : cR c S u := fun j hj => (k j).trans (h j hj)
def cl (T : Tb) (d : Nat) : Nat := T 1 (5 * d + 1)
def tm (T : Tb) (d : Nat) : Nat := T 1 (5 * d + 4)
def fa (T : Tb) (S : Nat → Nat) (d p j e : Nat) : Nat → Int32 := f7 (nI p) (nI (T 1 (5 * d + 3))) (nI (e - tm T d)) (nI e) (nI j) (nI (cl T d)) (nI (T 0 (2 * S (10 + d))))
def gw (T : Tb) (C : Nat → Nat) (n : Nat) (S : Nat → Nat) (d p j e : Nat) : Nat := if p = 0 then 0 else gv C n (fa T S d p j e)
def canP (T : Tb) (S : Nat → Nat) (d m : Nat) : Prop := m ≠ 0 ∧ m ≤ S (50 + cl T d) ∧ m ≤ S d
def pyS (T : Tb) (S : Nat → Nat) (d m : Nat) : Nat → Nat := up (up (up (up (up S (50 + cl T d) (S (50 + cl T d) - m)) d (S d - m)) (30 + d) (S (30 + d) + m)) (40 + d) (S (40 + d) + m)) (58 + cl T d) (S (58 + cl T d) + m)
def ow (T : Tb) (C : Nat → Nat) (n : Nat) (S : Nat → Nat) (d : Nat) : Nat := min 9999 (S d + gw T C n S d (S d) (S (40 + d)) (S 62))
def lt1 (T : Tb) (S : Nat → Nat) (d : Nat) : Nat := if S d ≠ 0 ∧ tm T d = S 62 then 1 else S (20 + d)
def psI (T : Tb) (C : Nat → Nat) (n : Nat) (S : Nat → Nat) : Nat → Nat → Nat
  | 0 => S
  | i + 1 => up (up (up (psI T C n S i) i (ow T C n S i)) (20 + i) (lt1 T S i)) (40 + i) 0
def ltS (T : Tb) (S : Nat → Nat) (e : Nat) : Nat → Nat → Nat
  | 0 => S
  | i + 1 => up (ltS T S e i) (50 + i) (m_light T e i)
def psS (T : Tb) (C : Nat → Nat) (n : Nat) (S : Nat → Nat) : Nat → Nat := ltS T (up (psI T C n S (T 7 1)) 62 (S 62 + 1)) (S 62 + 1) 4
theorem psI_o {T : Tb} {C : Nat → Nat} {n : Nat} {S : Nat → Nat} {k : Nat} : ∀ i, i ≤ 10 → (i ≤ k ∧ k < 20 ∨ 20 + i ≤ k ∧ k < 40 ∨ 40 + i ≤ k) → psI T C n S i k = S k := by
  intro i
  induction i with
  | zero => intro _ _; rfl
  | succ i ih =>
    intro hi hk
    unfold psI
    rw [up_n (by omega), up_n (by omega), up_n (by omega), ih (by omega) (by omega)]
theorem ltS_o {T : Tb} {S : Nat → Nat} {e k : Nat} : ∀ i, i ≤ 4 → (k < 50 ∨ 50 + i ≤ k) → ltS T S e i k = S k := by
  intro i
  induction i with
  | zero => intro _ _; rfl
  | succ i ih =>
    intro hi hk
    unfold ltS
    rw [up_n (by omega), ih (by omega) (by omega)]
/-- bounds that rows keep -/
theorem tb_cl {T : Tb} (h : tb T) {d : Nat} (hd : d < T 7 1) : cl T d < 4 := (h.2.2.1 d hd).2.1
theorem tb_tm {T : Tb} (h : tb T) {d : Nat} (hd : d < T 7 1) : tm T d ≤ 60 := (h.2.2.1 d hd).2.2.2.2.2
theorem tb_nd {T : Tb} (h : tb T) : T 7 1 ≤ 10 := h.1.2.1
theorem tb_nc {T : Tb} (h : tb T) : T 7 0 ≤ 6 := h.1.1
theorem rb_left {T : Tb} {S : Nat → Nat} (ht : tb T) (h : rb T S) {k : Nat} (hk : k < 4) : S (50 + k) ≤ 139 := by
  have h1 := h.2.1 k hk
  have h2 := ht.2.2.2.2.2.1 k hk
  omega
/-! the reference's -/
theorem R_colourOf {d i n : Nat} {T : Tb} {C : Nat → Nat} {w : q_Sm} {Q : Int32 → q_Sm → Prop} {X : s_Xo} (hE : RE T C n w) (hi : i < T 7 1) (h : Q (nI (cl T i)) w) : s_EvI (d + 1) 0 mX12_colourOf w [.ref 79, .int (nI i)] Q X := by
  have hb := tb_nd hE.1
  refine cI (r_colourOf (by omega)) ?_
  rintro _ _ ⟨rfl, rfl⟩
  rw [hE.2.1.2.2.1 (5 * i + 1) (by omega)]
  exact h
theorem R_lastOf {d i n : Nat} {T : Tb} {C : Nat → Nat} {w : q_Sm} {Q : Int32 → q_Sm → Prop} {X : s_Xo} (hE : RE T C n w) (hi : i < T 7 1) (h : Q (nI (tm T i)) w) : s_EvI (d + 1) 0 mX12_lastOf w [.ref 79, .int (nI i)] Q X := by
  have hb := tb_nd hE.1
  refine cI (r_lastOf (by omega)) ?_
  rintro _ _ ⟨rfl, rfl⟩
  rw [hE.2.1.2.2.1 (5 * i + 4) (by omega)]
  exact h
theorem R_lightOf {d e k n : Nat} {T : Tb} {C : Nat → Nat} {w : q_Sm} {Q : Int32 → q_Sm → Prop} {X : s_Xo} (hE : RE T C n w) (he : e < 2 ^ 31) (hk : k < 4) (h : Q (nI (m_light T e k)) w) : s_EvI (d + 1) 0 mX12_lightOf w [.ref 79, .int (nI e), .int (nI k)] Q X := by
  refine cI (r_lightOf hE.1 hE.2.1 he hk) ?_
  rintro _ _ ⟨rfl, rfl⟩
  exact h
/-- the fields that rows are made of: s, facts, stack -/
def aG (i _j : Nat) : Bool := i == 100 || i == 101
def aS (i _j : Nat) : Bool := i == 100 || i == 101 || i == 105
theorem r_copies {d a b m : Nat} {w : q_Sm} {Q : q_Sm → Prop} {X : s_Xo} (ha : q_id 116 14 a) (hb : q_id 116 14 b) (hab : a ≠ b) (hm : m < 2 ^ 31) (h1 : m ≤ (q_sh a).2) (h2 : m ≤ (q_sh b).2)
    (h : ∀ u, (∀ k, k < m → u.1 b k = w.1 a k) → (∀ k, m ≤ k → u.1 b k = w.1 b k) → fr (fun i _ => i == b) w u → Q u) : s_EvV (d + 1) 0 mX12_copies w [.ref 79, .ref a, .ref b, .int (nI m)] Q X := by
  have loop : ∀ k, k ≤ m → ∀ u, (∀ j, j < k → u.1 b j = w.1 a j) → (∀ j, k ≤ j → u.1 b j = w.1 b j) → fr (fun i _ => i == b) w u → s_Ex (d + 1) 0 mX12_copies 3 [none, some (.ref a), some (.ref b), some (.int (nI m)), some (.int (nI k))] [] u (s_V Q) X := by
    refine n_down ?_ ?_
    · intro u k1 k2 k3
      apply xX12_copies_3
      unfold vX12_copies_3
      exact ⟨fun _ => ⟨rfl, h u k1 k2 k3⟩, fun z => absurd (nI_le (Nat.le_refl _) hm) z⟩
    · intro k hk ih u k1 k2 k3
      apply xX12_copies_3
      unfold vX12_copies_3
      refine ⟨fun z => absurd z (nI_ge hk hm), fun _ => ⟨ha, (vp_nI (by omega)).mpr (by omega), hb, (vp_nI (by omega)).mpr (by omega), ?_⟩⟩
      rintro _ rfl
      rw [nI_1, nI_clamp (by omega)]
      have ea : u.1 a k = w.1 a k := k3.2 a k (by simp [hab])
      refine ih _ (fun j hj => ?_) (fun j hj => ?_) (k3.put (by simp))
      · rw [rd_e, if_pos rfl]
        split
        · rename_i e; rw [e]; exact ea
        · exact k1 j (by omega)
      · rw [rd_j (by omega)]; exact k2 j (by omega)
  apply eX12_copies
  unfold vX12_copies_0
  exact loop 0 (Nat.zero_le _) w (fun j hj => absurd hj (Nat.not_lt_zero _)) (fun _ _ => rfl) (fr.refl _ _)
theorem r_take {d : Nat} {S : Nat → Nat} {w : q_Sm} {Q : q_Sm → Prop} {X : s_Xo} (hS : rR 104 S w) (h : ∀ u, fr aS w u → rR 105 S u → Q u) : s_EvV (d + 2) 0 mX12_take w [.ref 79] Q X := by
  apply eX12_take
  unfold vX12_take_0
  refine r_copies (m := 63) (q_id_of rfl) (q_id_of rfl) (by omega) (by omega) (by decide) (by decide) (fun u k1 k2 k3 => ⟨rfl, h u (k3.mono ?_) (fun k hk => (k1 k hk).trans (hS k hk))⟩)
  intro i j q
  have : i = 105 := by simpa using q
  subst this; rfl
theorem RE.w {n a k : Nat} {v : Int32} {T : Tb} {C : Nat → Nat} {w : q_Sm} (h : RE T C n w) (ha : 100 ≤ a) : RE T C n (q_wI w a k v) := h.eq (fun i j q => rd_i (by omega))
theorem RE.f {n : Nat} {T : Tb} {C : Nat → Nat} {w u : q_Sm} {A : Nat → Nat → Bool} (h : RE T C n w) (f : fr A w u) (hA : ∀ i j, i < 100 → A i j = false) : RE T C n u := h.eq (fun i j q => f.2 i j (hA i j (by omega)))
theorem aV_aG (i j : Nat) (h : aV i j = true) : aG i j = true := by
  have : i = 100 := by simpa [aV] using h
  subst this; rfl
theorem aG_lo (i j : Nat) (h : i < 100) : aG i j = false := by simp [aG]; omega
theorem aS_lo (i j : Nat) (h : i < 100) : aS i j = false := by simp [aS]; omega
theorem aG_aS (i j : Nat) (h : aG i j = true) : aS i j = true := by
  have : i = 100 ∨ i = 101 := by simpa [aG] using h
  rcases this with rfl | rfl <;> rfl
theorem r_growsOf {d i n : Nat} {T : Tb} {C : Nat → Nat} {S : Nat → Nat} {w : q_Sm} {Q : Int32 → q_Sm → Prop} {X : s_Xo} (hE : RE T C n w) (hS : rR 105 S w) (hB : S i ≤ 9999 ∧ S (10 + i) < T 7 0) (h62 : S 62 ≤ 10000) (hi : i < T 7 1)
    (h : ∀ u, fr aG w u → Q (nI (gw T C n S i (S i) (S (40 + i)) (S 62))) u) : s_EvI (d + 4) 0 mX12_growsOf w [.ref 79, .int (nI i)] Q X := by
  have hb := tb_nd hE.1
  have hc := tb_nc hE.1
  have htm := tb_tm hE.1 hi
  have e90 : w.1 90 (5 * i + 3) = nI (T 1 (5 * i + 3)) := hE.2.1.2.2.1 _ (by omega)
  have e89 : w.1 89 (2 * S (10 + i)) = nI (T 0 (2 * S (10 + i))) := hE.2.1.2.1 _ (by omega)
  apply eX12_growsOf
  unfold vX12_growsOf_0
  simp (disch := omega) only [s_Ii, s_Jj, s_Vn, forall_eq, L_m1, nI_add, nI_clamp, nI_leI, nI_ltI, nI_eq, vp_nI, pk_mul, pk_sub, Nat.zero_add, Nat.add_zero, wr_2, Classical.not_not, true_and, and_true, ne_eq, false_implies, true_implies, implies_true, not_true_eq_false, not_false_eq_true, ia_0, ia_1, za_1, ia_2, za_2, ia_3, za_3, ia_4, za_4, ia_5, za_5, ia_6, za_6, ia_7, za_7, ia_8, za_8, ia_9, za_9, ia_10, za_10, ia_11, za_11, ia_12, za_12, ia_13, za_13, ia_14, za_14, ia_15, za_15, ib_0, ib_1, zb_1, ic_0, ic_1, ic_2, ic_3, zc_1, zc_2, zc_3, id_0, id_1, id_2, id_3, zd_1, zd_2, zd_3, L_0, L_1, L_2, L_3, L_4, L_5, L_6, L_7, L_8, L_9, L_10, L_11, L_12, L_13, L_14, L_15, L_16, L_17, L_18, L_19, L_20, L_24, L_27, L_30, L_31, L_32, L_35, L_36, L_40, L_41, L_43, L_44, L_45, L_46, L_47, L_48, L_50, L_54, L_57, L_58, L_59, L_60, L_61, L_62, L_63, L_91, L_93, L_96, L_97, L_98, L_99, L_100, L_103, L_122, L_145, L_150, L_200, L_255, L_600, L_999, L_1000, L_2000, L_9999, L_10000, L_32767, L_12345, hS _, rd_i, rd_j, rd_s, e90, e89]
  refine ⟨by omega, fun z => ⟨by omega, by omega, ?_⟩, fun z => ?_⟩
  · apply R_lastOf ((hE.w (by omega)).w (by omega)) hi
    simp (disch := omega) only [s_Ii, s_Jj, s_Vn, forall_eq, L_m1, nI_add, nI_clamp, nI_leI, nI_ltI, nI_eq, vp_nI, pk_mul, pk_sub, Nat.zero_add, Nat.add_zero, wr_2, Classical.not_not, true_and, and_true, ne_eq, false_implies, true_implies, implies_true, not_true_eq_false, not_false_eq_true, ia_0, ia_1, za_1, ia_2, za_2, ia_3, za_3, ia_4, za_4, ia_5, za_5, ia_6, za_6, ia_7, za_7, ia_8, za_8, ia_9, za_9, ia_10, za_10, ia_11, za_11, ia_12, za_12, ia_13, za_13, ia_14, za_14, ia_15, za_15, ib_0, ib_1, zb_1, ic_0, ic_1, ic_2, ic_3, zc_1, zc_2, zc_3, id_0, id_1, id_2, id_3, zd_1, zd_2, zd_3, L_0, L_1, L_2, L_3, L_4, L_5, L_6, L_7, L_8, L_9, L_10, L_11, L_12, L_13, L_14, L_15, L_16, L_17, L_18, L_19, L_20, L_24, L_27, L_30, L_31, L_32, L_35, L_36, L_40, L_41, L_43, L_44, L_45, L_46, L_47, L_48, L_50, L_54, L_57, L_58, L_59, L_60, L_61, L_62, L_63, L_91, L_93, L_96, L_97, L_98, L_99, L_100, L_103, L_122, L_145, L_150, L_200, L_255, L_600, L_999, L_1000, L_2000, L_9999, L_10000, L_32767, L_12345, hS _, rd_i, rd_j, rd_s, e90, e89]
    have key : ∀ (late : Nat) (m : q_Sm), late = S 62 - tm T i → m = q_wI (q_wI (q_wI (q_wI (q_wI (q_wI (q_wI w 101 0 (nI (S i))) 101 1 (nI (T 1 (5 * i + 3)))) 101 2 (nI late)) 101 3 (nI (S 62))) 101 4 (nI (S (40 + i)))) 101 5 (nI (cl T i))) 101 6 (nI (T 0 (2 * S (10 + i)))) →
        s_EvI (d + 3) 0 mX12_growsNow m [.ref 79] Q X := by
      rintro late _ rfl rfl
      refine r_growsNow (((((((hE.w (by omega)).w (by omega)).w (by omega)).w (by omega)).w (by omega)).w (by omega)).w (by omega)) (f := fa T S i (S i) (S (40 + i)) (S 62)) (fun k hk => ?_) (fun u hu => ?_)
      · obtain rfl | rfl | rfl | rfl | rfl | rfl | rfl : k = 0 ∨ k = 1 ∨ k = 2 ∨ k = 3 ∨ k = 4 ∨ k = 5 ∨ k = 6 := by omega
        all_goals simp [rd_e, fa, f7]
      · have e : gw T C n S i (S i) (S (40 + i)) (S 62) = gv C n (fa T S i (S i) (S (40 + i)) (S 62)) := by simp [gw, z]
        rw [← e]
        exact h u ((((((((fr.refl aG w).put rfl).put rfl).put rfl).put rfl).put rfl).put rfl).put rfl |>.trans (hu.mono aV_aG))
    refine ⟨fun z2 => ⟨by omega, ?_⟩, fun z2 => ?_⟩
    · refine R_colourOf (((((hE.w (by omega)).w (by omega)).w (by omega)).w (by omega)).w (by omega)) hi ?_
      simp (disch := omega) only [s_Ii, s_Jj, s_Vn, forall_eq, L_m1, nI_add, nI_clamp, nI_leI, nI_ltI, nI_eq, vp_nI, pk_mul, pk_sub, Nat.zero_add, Nat.add_zero, wr_2, Classical.not_not, true_and, and_true, ne_eq, false_implies, true_implies, implies_true, not_true_eq_false, not_false_eq_true, ia_0, ia_1, za_1, ia_2, za_2, ia_3, za_3, ia_4, za_4, ia_5, za_5, ia_6, za_6, ia_7, za_7, ia_8, za_8, ia_9, za_9, ia_10, za_10, ia_11, za_11, ia_12, za_12, ia_13, za_13, ia_14, za_14, ia_15, za_15, ib_0, ib_1, zb_1, ic_0, ic_1, ic_2, ic_3, zc_1, zc_2, zc_3, id_0, id_1, id_2, id_3, zd_1, zd_2, zd_3, L_0, L_1, L_2, L_3, L_4, L_5, L_6, L_7, L_8, L_9, L_10, L_11, L_12, L_13, L_14, L_15, L_16, L_17, L_18, L_19, L_20, L_24, L_27, L_30, L_31, L_32, L_35, L_36, L_40, L_41, L_43, L_44, L_45, L_46, L_47, L_48, L_50, L_54, L_57, L_58, L_59, L_60, L_61, L_62, L_63, L_91, L_93, L_96, L_97, L_98, L_99, L_100, L_103, L_122, L_145, L_150, L_200, L_255, L_600, L_999, L_1000, L_2000, L_9999, L_10000, L_32767, L_12345, hS _, rd_i, rd_j, rd_s, e90, e89]
      exact ⟨by omega, by omega, key 0 _ (by omega) rfl⟩
    · refine R_lastOf ((hE.w (by omega)).w (by omega)) hi ?_
      simp (disch := omega) only [s_Ii, s_Jj, s_Vn, forall_eq, L_m1, nI_add, nI_clamp, nI_leI, nI_ltI, nI_eq, vp_nI, pk_mul, pk_sub, Nat.zero_add, Nat.add_zero, wr_2, Classical.not_not, true_and, and_true, ne_eq, false_implies, true_implies, implies_true, not_true_eq_false, not_false_eq_true, ia_0, ia_1, za_1, ia_2, za_2, ia_3, za_3, ia_4, za_4, ia_5, za_5, ia_6, za_6, ia_7, za_7, ia_8, za_8, ia_9, za_9, ia_10, za_10, ia_11, za_11, ia_12, za_12, ia_13, za_13, ia_14, za_14, ia_15, za_15, ib_0, ib_1, zb_1, ic_0, ic_1, ic_2, ic_3, zc_1, zc_2, zc_3, id_0, id_1, id_2, id_3, zd_1, zd_2, zd_3, L_0, L_1, L_2, L_3, L_4, L_5, L_6, L_7, L_8, L_9, L_10, L_11, L_12, L_13, L_14, L_15, L_16, L_17, L_18, L_19, L_20, L_24, L_27, L_30, L_31, L_32, L_35, L_36, L_40, L_41, L_43, L_44, L_45, L_46, L_47, L_48, L_50, L_54, L_57, L_58, L_59, L_60, L_61, L_62, L_63, L_91, L_93, L_96, L_97, L_98, L_99, L_100, L_103, L_122, L_145, L_150, L_200, L_255, L_600, L_999, L_1000, L_2000, L_9999, L_10000, L_32767, L_12345, hS _, rd_i, rd_j, rd_s, e90, e89]
      refine ⟨by omega, ?_⟩
      refine R_colourOf (((((hE.w (by omega)).w (by omega)).w (by omega)).w (by omega)).w (by omega)) hi ?_
      simp (disch := omega) only [s_Ii, s_Jj, s_Vn, forall_eq, L_m1, nI_add, nI_clamp, nI_leI, nI_ltI, nI_eq, vp_nI, pk_mul, pk_sub, Nat.zero_add, Nat.add_zero, wr_2, Classical.not_not, true_and, and_true, ne_eq, false_implies, true_implies, implies_true, not_true_eq_false, not_false_eq_true, ia_0, ia_1, za_1, ia_2, za_2, ia_3, za_3, ia_4, za_4, ia_5, za_5, ia_6, za_6, ia_7, za_7, ia_8, za_8, ia_9, za_9, ia_10, za_10, ia_11, za_11, ia_12, za_12, ia_13, za_13, ia_14, za_14, ia_15, za_15, ib_0, ib_1, zb_1, ic_0, ic_1, ic_2, ic_3, zc_1, zc_2, zc_3, id_0, id_1, id_2, id_3, zd_1, zd_2, zd_3, L_0, L_1, L_2, L_3, L_4, L_5, L_6, L_7, L_8, L_9, L_10, L_11, L_12, L_13, L_14, L_15, L_16, L_17, L_18, L_19, L_20, L_24, L_27, L_30, L_31, L_32, L_35, L_36, L_40, L_41, L_43, L_44, L_45, L_46, L_47, L_48, L_50, L_54, L_57, L_58, L_59, L_60, L_61, L_62, L_63, L_91, L_93, L_96, L_97, L_98, L_99, L_100, L_103, L_122, L_145, L_150, L_200, L_255, L_600, L_999, L_1000, L_2000, L_9999, L_10000, L_32767, L_12345, hS _, rd_i, rd_j, rd_s, e90, e89]
      exact ⟨by omega, by omega, key _ _ rfl rfl⟩
  · have e : gw T C n S i (S i) (S (40 + i)) (S 62) = 0 := by simp [gw, z]
    rw [← e]
    exact h w (fr.refl _ _)
theorem r_pays {d i m n : Nat} {T : Tb} {C : Nat → Nat} {S : Nat → Nat} {w : q_Sm} {Q : Int32 → q_Sm → Prop} {X : s_Xo} (hE : RE T C n w) (hS : rR 105 S w) (hi : i < T 7 1) (hB : S i ≤ 9999 ∧ S (50 + cl T i) ≤ 139) (hm : m < 2 ^ 31)
    (h1 : canP T S i m → ∀ u, fr aS w u → rR 105 (pyS T S i m) u → Q (nI 1) u) (h0 : ¬ canP T S i m → Q (nI 0) w) : s_EvI (d + 2) 0 mX12_pays w [.ref 79, .int (nI i), .int (nI m)] Q X := by
  have hb := tb_nd hE.1
  have hc := tb_cl hE.1 hi
  apply eX12_pays
  unfold vX12_pays_0
  refine R_colourOf hE hi ?_
  simp (disch := omega) only [s_Ii, s_Jj, s_Vn, forall_eq, L_m1, nI_add, nI_clamp, nI_leI, nI_ltI, nI_eq, vp_nI, pk_mul, pk_sub, Nat.zero_add, Nat.add_zero, wr_2, Classical.not_not, true_and, and_true, ne_eq, false_implies, true_implies, implies_true, not_true_eq_false, not_false_eq_true, ia_0, ia_1, za_1, ia_2, za_2, ia_3, za_3, ia_4, za_4, ia_5, za_5, ia_6, za_6, ia_7, za_7, ia_8, za_8, ia_9, za_9, ia_10, za_10, ia_11, za_11, ia_12, za_12, ia_13, za_13, ia_14, za_14, ia_15, za_15, ib_0, ib_1, zb_1, ic_0, ic_1, ic_2, ic_3, zc_1, zc_2, zc_3, id_0, id_1, id_2, id_3, zd_1, zd_2, zd_3, L_0, L_1, L_2, L_3, L_4, L_5, L_6, L_7, L_8, L_9, L_10, L_11, L_12, L_13, L_14, L_15, L_16, L_17, L_18, L_19, L_20, L_24, L_27, L_30, L_31, L_32, L_35, L_36, L_40, L_41, L_43, L_44, L_45, L_46, L_47, L_48, L_50, L_54, L_57, L_58, L_59, L_60, L_61, L_62, L_63, L_91, L_93, L_96, L_97, L_98, L_99, L_100, L_103, L_122, L_145, L_150, L_200, L_255, L_600, L_999, L_1000, L_2000, L_9999, L_10000, L_32767, L_12345, hS _]
  refine ⟨fun z => h0 (fun q => q.1 z), fun z => ⟨by omega, fun z2 => h0 (fun q => absurd q.2.1 (by omega)), fun z2 => ⟨by omega, fun z3 => ⟨by omega, by omega, ?_⟩, fun z3 => h0 (fun q => z3 q.2.2)⟩⟩⟩
  have k1 := hS.put (k := 50 + cl T i) (v := S (50 + cl T i) - m)
  have k2 := k1.put (k := i) (v := S i - m)
  have k3 := k2.put (k := 30 + i) (v := S (30 + i) + m)
  have k4 := k3.put (k := 40 + i) (v := S (40 + i) + m)
  have k5 := k4.put (k := 58 + cl T i) (v := S (58 + cl T i) + m)
  simp (disch := omega) only [s_Ii, s_Jj, s_Vn, forall_eq, L_m1, nI_add, nI_clamp, nI_leI, nI_ltI, nI_eq, vp_nI, pk_mul, pk_sub, Nat.zero_add, Nat.add_zero, wr_2, Classical.not_not, true_and, and_true, ne_eq, false_implies, true_implies, implies_true, not_true_eq_false, not_false_eq_true, ia_0, ia_1, za_1, ia_2, za_2, ia_3, za_3, ia_4, za_4, ia_5, za_5, ia_6, za_6, ia_7, za_7, ia_8, za_8, ia_9, za_9, ia_10, za_10, ia_11, za_11, ia_12, za_12, ia_13, za_13, ia_14, za_14, ia_15, za_15, ib_0, ib_1, zb_1, ic_0, ic_1, ic_2, ic_3, zc_1, zc_2, zc_3, id_0, id_1, id_2, id_3, zd_1, zd_2, zd_3, L_0, L_1, L_2, L_3, L_4, L_5, L_6, L_7, L_8, L_9, L_10, L_11, L_12, L_13, L_14, L_15, L_16, L_17, L_18, L_19, L_20, L_24, L_27, L_30, L_31, L_32, L_35, L_36, L_40, L_41, L_43, L_44, L_45, L_46, L_47, L_48, L_50, L_54, L_57, L_58, L_59, L_60, L_61, L_62, L_63, L_91, L_93, L_96, L_97, L_98, L_99, L_100, L_103, L_122, L_145, L_150, L_200, L_255, L_600, L_999, L_1000, L_2000, L_9999, L_10000, L_32767, L_12345, hS _, k1 _, k2 _, k3 _, k4 _, up_n, rd_j, rd_s]
  refine ⟨by omega, by omega, by omega, by omega, by omega, by omega, by omega, by omega, h1 ⟨z, by omega, z3⟩ _ ?_ k5⟩
  exact (((((fr.refl aS w).put rfl).put rfl).put rfl).put rfl).put rfl
