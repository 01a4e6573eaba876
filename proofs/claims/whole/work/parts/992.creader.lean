/-! the class reads -/
def pkA (N : Nat) (Y : Nat → Nat) (a : Nat) : Option Nat := if a < N then some (Y a) else none
def dgO : Option Nat → Nat
  | none => 0
  | some y => if 48 ≤ y ∧ y ≤ 57 then 1 else 0
def ltO : Option Nat → Nat
  | none => 0
  | some y => if 97 ≤ y ∧ y ≤ 122 then 1 else 0
theorem K_peek {d N a : Nat} {Y : Nat → Nat} {X : s_Xo} {w : q_Sm} {Q : Int32 → q_Sm → Prop} (hT : tC N Y a w) (h : Q (oI (pkA N Y a)) w) : s_EvI (d + 1) 0 mX10_peek w [.ref 2] Q X := by
  have h600 := hT.1
  have haN := hT.2.1
  apply eX10_peek
  unfold vX10_peek_0
  rw [hT.2.2.1, hT.2.2.2.1, nI_leI (by omega) (by omega), nI_clamp (by omega)]
  refine ⟨fun z => ?_, fun z => ⟨(vp_nI (by omega)).mpr (by omega), ?_⟩⟩
  · unfold pkA at h
    rw [if_neg (by omega)] at h
    rw [s_Ii]
    exact h
  · obtain ⟨hy, hby⟩ := hT.2.2.2.2 a (by omega)
    unfold pkA at h
    rw [if_pos (by omega)] at h
    rw [hby, sx_255 _ hy, s_Ii]
    exact h
theorem neg_lt {n : Nat} (h : n < 2 ^ 31) : (oI none < nI n) := by
  show (-1 : Int32) < nI n
  rw [Int32.lt_iff_toInt_lt]
  have : (nI n).toInt = n := nI_toInt h
  rw [this]
  have : (-1 : Int32).toInt = -1 := by decide
  rw [this]
  omega
theorem K_isDigit {d : Nat} {o : Option Nat} {X : s_Xo} {w : q_Sm} {Q : Int32 → q_Sm → Prop} (ho : ∀ y, o = some y → y < 256) (h : Q (nI (dgO o)) w) : s_EvI (d + 1) 0 mX10_isDigit w [.int (oI o)] Q X := by
  apply eX10_isDigit
  unfold vX10_isDigit_0
  rw [s_Ii, s_Ii]
  cases o with
  | none => exact ⟨fun _ => h, fun z => absurd (neg_lt (n := 48) (by decide)) z⟩
  | some y =>
    have hy := ho y rfl
    have h : Q (nI (if 48 ≤ y ∧ y ≤ 57 then 1 else 0)) w := h
    try simp (disch := omega) only [s_Ii, s_Jj, s_Vn, forall_eq, L_m1, nI_add, nI_clamp, nI_leI, nI_ltI, nI_eq, vp_nI, pk_mul, pk_sub, Nat.zero_add, Nat.add_zero, wr_2, Classical.not_not, true_and, and_true, ne_eq, false_implies, true_implies, implies_true, not_true_eq_false, not_false_eq_true, ia_0, ia_1, za_1, ia_2, za_2, ia_3, za_3, ia_4, za_4, ia_5, za_5, ia_6, za_6, ia_7, za_7, ia_8, za_8, ia_9, za_9, ia_10, za_10, ia_11, za_11, ia_12, za_12, ia_13, za_13, ia_14, za_14, ia_15, za_15, ib_0, ib_1, zb_1, ic_0, ic_1, ic_2, ic_3, zc_1, zc_2, zc_3, id_0, id_1, id_2, id_3, zd_1, zd_2, zd_3, L_0, L_1, L_2, L_3, L_4, L_5, L_6, L_7, L_8, L_9, L_10, L_11, L_12, L_13, L_14, L_15, L_16, L_17, L_18, L_19, L_20, L_24, L_27, L_30, L_31, L_32, L_35, L_36, L_40, L_41, L_43, L_44, L_45, L_46, L_47, L_48, L_50, L_54, L_57, L_58, L_59, L_60, L_61, L_62, L_63, L_91, L_93, L_96, L_97, L_98, L_99, L_100, L_103, L_122, L_145, L_150, L_200, L_255, L_600, L_999, L_1000, L_2000, L_9999, L_10000, L_32767, L_12345, oI_s, oI_n, L_mn, if_true, if_false, ite_true, ite_false, Bool.false_eq_true, Nat.reduceEqDiff, Nat.reduceLeDiff, Nat.reduceLT, Nat.reduceAdd, Nat.reduceSub, Nat.reduceMul, Nat.le_refl, Nat.lt_irrefl, Nat.not_lt_zero]
    refine ⟨fun z => ?_, fun z => ⟨fun z2 => ?_, fun z2 => ?_⟩⟩
    · rw [if_neg (by omega)] at h; exact h
    · rw [if_neg (by omega)] at h; exact h
    · rw [if_pos (by omega)] at h; exact h
theorem K_isLetter {d : Nat} {o : Option Nat} {X : s_Xo} {w : q_Sm} {Q : Int32 → q_Sm → Prop} (ho : ∀ y, o = some y → y < 256) (h : Q (nI (ltO o)) w) : s_EvI (d + 1) 0 mX10_isLetter w [.int (oI o)] Q X := by
  apply eX10_isLetter
  unfold vX10_isLetter_0
  rw [s_Ii, s_Ii]
  cases o with
  | none => exact ⟨fun _ => h, fun z => absurd (neg_lt (n := 97) (by decide)) z⟩
  | some y =>
    have hy := ho y rfl
    have h : Q (nI (if 97 ≤ y ∧ y ≤ 122 then 1 else 0)) w := h
    try simp (disch := omega) only [s_Ii, s_Jj, s_Vn, forall_eq, L_m1, nI_add, nI_clamp, nI_leI, nI_ltI, nI_eq, vp_nI, pk_mul, pk_sub, Nat.zero_add, Nat.add_zero, wr_2, Classical.not_not, true_and, and_true, ne_eq, false_implies, true_implies, implies_true, not_true_eq_false, not_false_eq_true, ia_0, ia_1, za_1, ia_2, za_2, ia_3, za_3, ia_4, za_4, ia_5, za_5, ia_6, za_6, ia_7, za_7, ia_8, za_8, ia_9, za_9, ia_10, za_10, ia_11, za_11, ia_12, za_12, ia_13, za_13, ia_14, za_14, ia_15, za_15, ib_0, ib_1, zb_1, ic_0, ic_1, ic_2, ic_3, zc_1, zc_2, zc_3, id_0, id_1, id_2, id_3, zd_1, zd_2, zd_3, L_0, L_1, L_2, L_3, L_4, L_5, L_6, L_7, L_8, L_9, L_10, L_11, L_12, L_13, L_14, L_15, L_16, L_17, L_18, L_19, L_20, L_24, L_27, L_30, L_31, L_32, L_35, L_36, L_40, L_41, L_43, L_44, L_45, L_46, L_47, L_48, L_50, L_54, L_57, L_58, L_59, L_60, L_61, L_62, L_63, L_91, L_93, L_96, L_97, L_98, L_99, L_100, L_103, L_122, L_145, L_150, L_200, L_255, L_600, L_999, L_1000, L_2000, L_9999, L_10000, L_32767, L_12345, oI_s, oI_n, L_mn, if_true, if_false, ite_true, ite_false, Bool.false_eq_true, Nat.reduceEqDiff, Nat.reduceLeDiff, Nat.reduceLT, Nat.reduceAdd, Nat.reduceSub, Nat.reduceMul, Nat.le_refl, Nat.lt_irrefl, Nat.not_lt_zero]
    refine ⟨fun z => ?_, fun z => ⟨fun z2 => ?_, fun z2 => ?_⟩⟩
    · rw [if_neg (by omega)] at h; exact h
    · rw [if_neg (by omega)] at h; exact h
    · rw [if_pos (by omega)] at h; exact h
theorem fC_5 {f : Option (Nat × Nat)} {w : q_Sm} (h : fC f w) : (w.1 2 5 = 0) ↔ f = none := by
  cases f with
  | none => exact ⟨fun _ => rfl, fun _ => h.1⟩
  | some x =>
    obtain ⟨k, p⟩ := x
    have h : w.1 2 5 = nI k ∧ w.1 2 6 = nI p ∧ 0 < k ∧ k < 4 ∧ p ≤ 600 := h
    rw [h.1, L_0, nI_eq (by omega) (by omega)]
    refine ⟨fun z => by omega, fun z => by simp at z⟩
theorem K_blame {d k p : Nat} {X : s_Xo} {f : Option (Nat × Nat)} {w : q_Sm} {Q : q_Sm → Prop} (hf : fC f w) (hk : 0 < k) (hk4 : k < 4) (hp : p ≤ 600) (h : ∀ u, fr aTx w u → u.1 2 3 = w.1 2 3 → u.1 2 4 = w.1 2 4 → fC (orf f (some (k, p))) u → Q u) : s_EvV (d + 1) 0 mX10_blame w [.ref 2, .int (nI k), .int (nI p)] Q X := by
  apply eX10_blame
  unfold vX10_blame_0
  rw [fC_5 hf, s_Vn]
  cases f with
  | none =>
    refine ⟨fun z => absurd rfl z, fun _ => ?_⟩
    rintro _ rfl _ rfl
    rw [s_Vn]
    refine h _ ((fr.wr rfl).put rfl) ?_ ?_ ⟨?_, ?_, hk, hk4, hp⟩
    · rw [rd_j (by decide), rd_j (by decide)]
    · rw [rd_j (by decide), rd_j (by decide)]
    · rw [rd_j (by decide), rd_s]
    · rw [rd_s]
  | some x => exact ⟨fun _ => h w (fr.refl _ _) rfl rfl hf, fun z => absurd (fun q => by simp at q) z⟩
theorem digV {N a : Nat} {Y : Nat → Nat} : dgO (pkA N Y a) = (if a < N ∧ pD Y a = true then 1 else 0) := by
  unfold pkA
  by_cases q : a < N
  · rw [if_pos q]
    simp [q, pD, dgO]
  · rw [if_neg q, if_neg (fun z => q z.1)]; rfl
theorem letV {N a : Nat} {Y : Nat → Nat} : ltO (pkA N Y a) = (if a < N ∧ pL Y a = true then 1 else 0) := by
  unfold pkA
  by_cases q : a < N
  · rw [if_pos q]
    simp [q, pL, ltO]
  · rw [if_neg q, if_neg (fun z => q z.1)]; rfl
theorem tC.by {N a : Nat} {Y : Nat → Nat} {w : q_Sm} (hT : tC N Y a w) : ∀ y, pkA N Y a = some y → y < 256 := by
  intro y h
  unfold pkA at h
  by_cases q : a < N
  · rw [if_pos q] at h
    simp at h
    rw [← h]
    exact (hT.2.2.2.2 a q).1
  · rw [if_neg q] at h
    simp at h
theorem K_number {d N a lo hi : Nat} {Y : Nat → Nat} {X : s_Xo} {f : Option (Nat × Nat)} {w : q_Sm} {Q : Int32 → q_Sm → Prop} (hlo : lo ≤ 9999) (hhi : hi ≤ 9999) (hT : tC N Y a w) (hf : fC f w) (h : ∀ u, fr aTx w u → tC N Y (num N Y lo hi a).2.2 u → fC (orf f (num N Y lo hi a).1) u → u.1 2 4 = nI (sk N Y a) → Q (nI (num N Y lo hi a).2.1) u) : s_EvI (d + 2) 0 mX10_number w [.ref 2, .int (nI lo), .int (nI hi)] Q X := by
  have h600 := hT.1
  have haN := hT.2.1
  have hsN := sk_le (Y := Y) haN
  unfold num at h
  have ofn : ∀ g : Option (Nat × Nat), orf g none = g := fun g => by cases g <;> rfl
  apply eX10_number
  unfold vX10_number_0
  refine K_skipBlanks (d := d) hT hf (fun u fu tu ffu _ => ?_)
  intro w3 e3
  have t3 : tC N Y (sk N Y a) w3 := tu.mv (by rw [e3]; exact fr.wr rfl) (by rw [e3, rd_j (by decide)]; exact tu.2.2.2.1) hsN
  have f3 : fC f w3 := ffu.mv (by rw [e3, rd_j (by decide)]) (by rw [e3, rd_j (by decide)])
  have fr3 : fr aTx w w3 := by rw [e3]; exact fu.put rfl
  have s3 : w3.1 2 4 = nI (sk N Y a) := by rw [e3, rd_s]; exact tu.2.2.2.1
  clear e3
  generalize sk N Y a = s at h t3 s3 hsN
  refine K_peek t3 (K_isDigit t3.by ?_)
  rw [digV]
  by_cases q : s < N ∧ pD Y s = true
  · rw [if_pos q]
    rw [if_pos q] at h
    refine ⟨fun _ => ?_, fun z => absurd (by decide) z⟩
    have hle := (rn_b (N := N) (p := pD Y) hsN).2.1
    have hge := (rn_b (N := N) (p := pD Y) hsN).1
    generalize hV : vlD N Y s = V at h
    have fin : ∀ u, fr aTx w u → tC N Y (rn N (pD Y) s) u → fC f u → u.1 2 4 = nI s → V ≤ 9999 → (nI V < nI lo → s_EvV (d + 1) 0 mX10_blame u [.ref 2, .int 2, .int (u.1 2 4)] (fun u11 => s_I Q (some (.int (nI lo))) u11) X) ∧ (¬ nI V < nI lo → (nI V ≤ nI hi → s_I Q (some (.int (nI V))) u) ∧ (¬ nI V ≤ nI hi → s_EvV (d + 1) 0 mX10_blame u [.ref 2, .int 2, .int (u.1 2 4)] (fun u13 => s_I Q (some (.int (nI lo))) u13) X)) := by
      intro u fu tu ffu su hV9
      rw [nI_ltI (by omega) (by omega), nI_leI (by omega) (by omega), su]
      refine ⟨fun z => ?_, fun z => ⟨fun z2 => ?_, fun z2 => ?_⟩⟩
      · refine K_blame (k := 2) ffu (by decide) (by decide) (by omega) (fun u2 g1 g2 g3 g4 => ?_)
        rw [if_neg (by omega)] at h
        rw [s_Ii]
        exact h u2 (fu.trans g1) (tu.mv g1 (g2.trans tu.2.2.2.1) hle) g4 (g3.trans su)
      · rw [if_pos ⟨by omega, by omega⟩] at h
        rw [s_Ii]
        exact h u fu tu (by rw [ofn]; exact ffu) su
      · refine K_blame (k := 2) ffu (by decide) (by decide) (by omega) (fun u2 g1 g2 g3 g4 => ?_)
        rw [if_neg (by omega)] at h
        rw [s_Ii]
        exact h u2 (fu.trans g1) (tu.mv g1 (g2.trans tu.2.2.2.1) hle) g4 (g3.trans su)
    have loop : ∀ j b v (u : q_Sm), b + j = N → fr aTx w u → tC N Y b u → fC f u → u.1 2 4 = nI s → rn N (pD Y) b = rn N (pD Y) s → vlA Y (rn N (pD Y) s - b) b v = V → v ≤ 9999 → s_Ex (d + 2) 0 mX10_number 35 [some (.ref 2), some (.int (nI lo)), some (.int (nI hi)), some (.int (nI v))] [] u (s_I Q) X := by
      intro j
      induction j with
      | zero =>
        intro b v u hb fu tu ffu su he hv hv9
        rw [rn_e (by omega)] at he
        rw [← he, Nat.sub_self] at hv
        have hv : v = V := hv
        rw [← he] at fin
        apply xX10_number_35
        unfold vX10_number_35
        rw [tu.2.2.1, tu.2.2.2.1, nI_leI (by omega) (by omega)]
        rw [hv] at hv9 ⊢
        exact ⟨fun _ => fin u fu tu ffu su hv9, fun z => absurd (by omega) z⟩
      | succ j ih =>
        intro b v u hb fu tu ffu su he hv hv9
        apply xX10_number_35
        unfold vX10_number_35
        have hleb : ¬ (u.1 2 2 ≤ u.1 2 3) := by
          rw [tu.2.2.1, tu.2.2.2.1, nI_leI (by omega) (by omega)]
          omega
        refine ⟨fun z => absurd z hleb, fun _ => K_peek tu (K_isDigit tu.by ?_)⟩
        rw [digV]
        by_cases q2 : b < N ∧ pD Y b = true
        · rw [if_pos q2]
          refine ⟨fun z => absurd z (by decide), fun _ => K_peek tu ?_⟩
          have hyb := (tu.2.2.2.2 b q2.1).1
          have hd : 48 ≤ Y b ∧ Y b ≤ 57 := of_decide_eq_true q2.2
          have hpk : pkA N Y b = some (Y b) := if_pos q2.1
          have e1 : nI v * 10 + nI (Y b) - 48 = nI (v * 10 + Y b - 48) := by try simp (disch := omega) only [s_Ii, s_Jj, s_Vn, forall_eq, L_m1, nI_add, nI_clamp, nI_leI, nI_ltI, nI_eq, vp_nI, pk_mul, pk_sub, Nat.zero_add, Nat.add_zero, wr_2, Classical.not_not, true_and, and_true, ne_eq, false_implies, true_implies, implies_true, not_true_eq_false, not_false_eq_true, ia_0, ia_1, za_1, ia_2, za_2, ia_3, za_3, ia_4, za_4, ia_5, za_5, ia_6, za_6, ia_7, za_7, ia_8, za_8, ia_9, za_9, ia_10, za_10, ia_11, za_11, ia_12, za_12, ia_13, za_13, ia_14, za_14, ia_15, za_15, ib_0, ib_1, zb_1, ic_0, ic_1, ic_2, ic_3, zc_1, zc_2, zc_3, id_0, id_1, id_2, id_3, zd_1, zd_2, zd_3, L_0, L_1, L_2, L_3, L_4, L_5, L_6, L_7, L_8, L_9, L_10, L_11, L_12, L_13, L_14, L_15, L_16, L_17, L_18, L_19, L_20, L_24, L_27, L_30, L_31, L_32, L_35, L_36, L_40, L_41, L_43, L_44, L_45, L_46, L_47, L_48, L_50, L_54, L_57, L_58, L_59, L_60, L_61, L_62, L_63, L_91, L_93, L_96, L_97, L_98, L_99, L_100, L_103, L_122, L_145, L_150, L_200, L_255, L_600, L_999, L_1000, L_2000, L_9999, L_10000, L_32767, L_12345, oI_s, oI_n, L_mn, if_true, if_false, ite_true, ite_false, Bool.false_eq_true, Nat.reduceEqDiff, Nat.reduceLeDiff, Nat.reduceLT, Nat.reduceAdd, Nat.reduceSub, Nat.reduceMul, Nat.le_refl, Nat.lt_irrefl, Nat.not_lt_zero]
          rw [hpk, oI_s, e1]
          refine k_minN (a := 9999) (by omega) (by omega) ?_
          intro w6 e6
          rw [tu.2.2.2.1, nI_1 b] at e6
          have f6 : fr aTx u w6 := by rw [e6]; exact fr.wr rfl
          rw [rn_y q2.1 q2.2] at he
          have hge2 := (rn_b (N := N) (p := pD Y) (a := b + 1) (by omega)).1
          rw [he] at hge2
          rw [show rn N (pD Y) s - b = (rn N (pD Y) s - (b + 1)) + 1 by omega, vlA] at hv
          refine ih (b + 1) _ w6 (by omega) (fu.trans f6) (tu.mv f6 (by rw [e6, rd_s]) (by omega)) (ffu.mv (by rw [e6, rd_j (by decide)]) (by rw [e6, rd_j (by decide)])) (by rw [e6, rd_j (by decide)]; exact su) he hv (by omega)
        · rw [if_neg q2]
          have hp : pD Y b = false := by
            cases z : pD Y b with
            | false => rfl
            | true => exact absurd ⟨by omega, z⟩ q2
          rw [rn_x (by omega) hp] at he
          rw [← he, Nat.sub_self] at hv
          have hv : v = V := hv
          rw [← he] at fin
          rw [hv] at hv9 ⊢
          exact ⟨fun _ => fin u fu tu ffu su hv9, fun z => absurd rfl z⟩
    exact loop (N - s) s 0 w3 (by omega) fr3 t3 f3 s3 rfl hV (by omega)
  · rw [if_neg q]
    rw [if_neg q] at h
    refine ⟨fun z => absurd rfl z, fun _ => ?_⟩
    rw [t3.2.2.2.1]
    refine K_blame (k := 1) f3 (by decide) (by decide) (by omega) (fun u2 g1 g2 g3 g4 => ?_)
    rw [s_Ii]
    exact h u2 (fr3.trans g1) (t3.mv g1 (g2.trans t3.2.2.2.1) hsN) g4 (g3.trans s3)
