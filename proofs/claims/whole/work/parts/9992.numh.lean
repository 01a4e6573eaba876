/-! numbers below a bound that may be 0 -/
def numH (N : Nat) (Y : Nat → Nat) (lo H a : Nat) : Option (Nat × Nat) × Nat × Nat :=
  if sk N Y a < N ∧ pD Y (sk N Y a) = true then
    (if lo ≤ vlD N Y (sk N Y a) ∧ vlD N Y (sk N Y a) < H then (none, vlD N Y (sk N Y a), rn N (pD Y) (sk N Y a)) else (some (2, sk N Y a), lo, rn N (pD Y) (sk N Y a)))
  else (some (1, sk N Y a), lo, sk N Y a)
theorem numH_v {N lo H a : Nat} {Y : Nat → Nat} (h : (numH N Y lo H a).1 = none) : lo ≤ (numH N Y lo H a).2.1 ∧ (numH N Y lo H a).2.1 < H := by
  unfold numH at h ⊢
  by_cases q : sk N Y a < N ∧ pD Y (sk N Y a) = true
  · rw [if_pos q] at h ⊢
    by_cases q2 : lo ≤ vlD N Y (sk N Y a) ∧ vlD N Y (sk N Y a) < H
    · rw [if_pos q2]
      exact q2
    · rw [if_neg q2] at h
      simp at h
  · rw [if_neg q] at h
    simp at h
theorem numH_ok {N lo H a : Nat} {Y : Nat → Nat} (ha : a ≤ N) (h : (numH N Y lo H a).1 = none) : a < (numH N Y lo H a).2.2 ∧ (numH N Y lo H a).2.2 ≤ N := by
  have h1 := sk_ge (Y := Y) ha
  unfold numH at h ⊢
  by_cases q : sk N Y a < N ∧ pD Y (sk N Y a) = true
  · rw [if_pos q] at h ⊢
    by_cases q2 : lo ≤ vlD N Y (sk N Y a) ∧ vlD N Y (sk N Y a) < H
    · rw [if_pos q2]
      show a < rn N (pD Y) (sk N Y a) ∧ rn N (pD Y) (sk N Y a) ≤ N
      rw [rn_y q.1 q.2]
      have := rn_b (N := N) (p := pD Y) (a := sk N Y a + 1) (by omega)
      omega
    · rw [if_neg q2] at h
      simp at h
  · rw [if_neg q] at h
    simp at h
/-- the bound that stands in the memory as a number less 1 -/
theorem bd_c {c : Nat} (hc : c ≤ 1000) : ∀ v, v < 2 ^ 20 → (nI v ≤ nI c - 1 ↔ v < c) := by
  intro v hv
  cases c with
  | zero =>
    have e : nI 0 - 1 = oI none := rfl
    rw [e]
    have h := neg_lt (n := v) (by omega)
    rw [Int32.lt_iff_toInt_lt] at h
    rw [Int32.le_iff_toInt_le]
    omega
  | succ c =>
    have e : nI (c + 1) - nI 1 = nI (c + 1 - 1) := pk_sub (by omega)
    have e : nI (c + 1) - 1 = nI c := e
    rw [e, nI_leI (by omega) (by omega)]
    omega
theorem K_numH {d N a lo H : Nat} {x : Int32} {Y : Nat → Nat} {X : s_Xo} {f : Option (Nat × Nat)} {w : q_Sm} {Q : Int32 → q_Sm → Prop} (hlo : lo ≤ 9999) (hx : ∀ v, v ≤ 9999 → (nI v ≤ x ↔ v < H)) (hT : tC N Y a w) (hf : fC f w) (h : ∀ u, fr aTx w u → tC N Y (numH N Y lo H a).2.2 u → fC (orf f (numH N Y lo H a).1) u → u.1 2 4 = nI (sk N Y a) → Q (nI (numH N Y lo H a).2.1) u) : s_EvI (d + 2) 0 mX10_number w [.ref 2, .int (nI lo), .int x] Q X := by
  have h600 := hT.1
  have haN := hT.2.1
  have hsN := sk_le (Y := Y) haN
  unfold numH at h
  have ofn : ∀ g : Option (Nat × Nat), orf g none = g := fun g => by cases g <;> rfl
  apply eX10_number
  unfold vX10_number_0
  refine K_skipBlanks (d := d) hT hf (fun u fu tu ffu _ => ?_)
  intro w3 e3
  have t3 : tC N Y (sk N Y a) w3 := tu.mv (by rw [e3]; exact fr.wr rfl) (by rw [e3, rd_j (by decide)]; exact tu.2.2.2.1) hsN
  have f3 : fC f w3 := ffu.mv (by rw [e3, rd_j (by decide)]) (by rw [e3, rd_j (by decide)])
  have fr3 : fr aTx w w3 := by rw [e3]; exact fu.put rfl
  have s3 : w3.1 2 4 = nI (sk N Y a) := by rw [e3, rd_s]; exact tu.2.2.2.1
  clear e3
  generalize sk N Y a = s at h t3 s3 hsN
  refine K_peek t3 (K_isDigit t3.by ?_)
  rw [digV]
  by_cases q : s < N ∧ pD Y s = true
  · rw [if_pos q]
    rw [if_pos q] at h
    refine ⟨fun _ => ?_, fun z => absurd (by decide) z⟩
    have hle := (rn_b (N := N) (p := pD Y) hsN).2.1
    have hge := (rn_b (N := N) (p := pD Y) hsN).1
    generalize hV : vlD N Y s = V at h
    have fin : ∀ u, fr aTx w u → tC N Y (rn N (pD Y) s) u → fC f u → u.1 2 4 = nI s → V ≤ 9999 → (nI V < nI lo → s_EvV (d + 1) 0 mX10_blame u [.ref 2, .int 2, .int (u.1 2 4)] (fun u11 => s_I Q (some (.int (nI lo))) u11) X) ∧ (¬ nI V < nI lo → (nI V ≤ x → s_I Q (some (.int (nI V))) u) ∧ (¬ nI V ≤ x → s_EvV (d + 1) 0 mX10_blame u [.ref 2, .int 2, .int (u.1 2 4)] (fun u13 => s_I Q (some (.int (nI lo))) u13) X)) := by
      intro u fu tu ffu su hV9
      rw [nI_ltI (by omega) (by omega), hx V hV9, su]
      refine ⟨fun z => ?_, fun z => ⟨fun z2 => ?_, fun z2 => ?_⟩⟩
      · refine K_blame (k := 2) ffu (by decide) (by decide) (by omega) (fun u2 g1 g2 g3 g4 => ?_)
        rw [if_neg (by omega)] at h
        rw [s_Ii]
        exact h u2 (fu.trans g1) (tu.mv g1 (g2.trans tu.2.2.2.1) hle) g4 (g3.trans su)
      · rw [if_pos ⟨by omega, by omega⟩] at h
        rw [s_Ii]
        exact h u fu tu (by rw [ofn]; exact ffu) su
      · refine K_blame (k := 2) ffu (by decide) (by decide) (by omega) (fun u2 g1 g2 g3 g4 => ?_)
        rw [if_neg (by omega)] at h
        rw [s_Ii]
        exact h u2 (fu.trans g1) (tu.mv g1 (g2.trans tu.2.2.2.1) hle) g4 (g3.trans su)
    have loop : ∀ j b v (u : q_Sm), b + j = N → fr aTx w u → tC N Y b u → fC f u → u.1 2 4 = nI s → rn N (pD Y) b = rn N (pD Y) s → vlA Y (rn N (pD Y) s - b) b v = V → v ≤ 9999 → s_Ex (d + 2) 0 mX10_number 35 [some (.ref 2), some (.int (nI lo)), some (.int x), some (.int (nI v))] [] u (s_I Q) X := by
      intro j
      induction j with
      | zero =>
        intro b v u hb fu tu ffu su he hv hv9
        rw [rn_e (by omega)] at he
        rw [← he, Nat.sub_self] at hv
        have hv : v = V := hv
        rw [← he] at fin
        apply xX10_number_35
        unfold vX10_number_35
        rw [tu.2.2.1, tu.2.2.2.1, nI_leI (by omega) (by omega)]
        rw [hv] at hv9 ⊢
        exact ⟨fun _ => fin u fu tu ffu su hv9, fun z => absurd (by omega) z⟩
      | succ j ih =>
        intro b v u hb fu tu ffu su he hv hv9
        apply xX10_number_35
        unfold vX10_number_35
        have hleb : ¬ (u.1 2 2 ≤ u.1 2 3) := by
          rw [tu.2.2.1, tu.2.2.2.1, nI_leI (by omega) (by omega)]
          omega
        refine ⟨fun z => absurd z hleb, fun _ => K_peek tu (K_isDigit tu.by ?_)⟩
        rw [digV]
        by_cases q2 : b < N ∧ pD Y b = true
        · rw [if_pos q2]
          refine ⟨fun z => absurd z (by decide), fun _ => K_peek tu ?_⟩
          have hyb := (tu.2.2.2.2 b q2.1).1
          have hd : 48 ≤ Y b ∧ Y b ≤ 57 := of_decide_eq_true q2.2
          have hpk : pkA N Y b = some (Y b) := if_pos q2.1
          have e1 : nI v * 10 + nI (Y b) - 48 = nI (v * 10 + Y b - 48) := by try simp (disch := omega) only [s_Ii, s_Jj, s_Vn, forall_eq, L_m1, nI_add, nI_clamp, nI_leI, nI_ltI, nI_eq, vp_nI, pk_mul, pk_sub, Nat.zero_add, Nat.add_zero, wr_2, Classical.not_not, true_and, and_true, ne_eq, false_implies, true_implies, implies_true, not_true_eq_false, not_false_eq_true, ia_0, ia_1, za_1, ia_2, za_2, ia_3, za_3, ia_4, za_4, ia_5, za_5, ia_6, za_6, ia_7, za_7, ia_8, za_8, ia_9, za_9, ia_10, za_10, ia_11, za_11, ia_12, za_12, ia_13, za_13, ia_14, za_14, ia_15, za_15, ib_0, ib_1, zb_1, ic_0, ic_1, ic_2, ic_3, zc_1, zc_2, zc_3, id_0, id_1, id_2, id_3, zd_1, zd_2, zd_3, L_0, L_1, L_2, L_3, L_4, L_5, L_6, L_7, L_8, L_9, L_10, L_11, L_12, L_13, L_14, L_15, L_16, L_17, L_18, L_19, L_20, L_24, L_27, L_30, L_31, L_32, L_35, L_36, L_40, L_41, L_43, L_44, L_45, L_46, L_47, L_48, L_50, L_54, L_57, L_58, L_59, L_60, L_61, L_62, L_63, L_91, L_93, L_96, L_97, L_98, L_99, L_100, L_103, L_122, L_145, L_150, L_200, L_255, L_600, L_999, L_1000, L_2000, L_9999, L_10000, L_32767, L_12345, oI_s, oI_n, L_mn, if_true, if_false, ite_true, ite_false, Bool.false_eq_true, Nat.reduceEqDiff, Nat.reduceLeDiff, Nat.reduceLT, Nat.reduceAdd, Nat.reduceSub, Nat.reduceMul, Nat.le_refl, Nat.lt_irrefl, Nat.not_lt_zero]
          rw [hpk, oI_s, e1]
          refine k_minN (a := 9999) (by omega) (by omega) ?_
          intro w6 e6
          rw [tu.2.2.2.1, nI_1 b] at e6
          have f6 : fr aTx u w6 := by rw [e6]; exact fr.wr rfl
          rw [rn_y q2.1 q2.2] at he
          have hge2 := (rn_b (N := N) (p := pD Y) (a := b + 1) (by omega)).1
          rw [he] at hge2
          rw [show rn N (pD Y) s - b = (rn N (pD Y) s - (b + 1)) + 1 by omega, vlA] at hv
          refine ih (b + 1) _ w6 (by omega) (fu.trans f6) (tu.mv f6 (by rw [e6, rd_s]) (by omega)) (ffu.mv (by rw [e6, rd_j (by decide)]) (by rw [e6, rd_j (by decide)])) (by rw [e6, rd_j (by decide)]; exact su) he hv (by omega)
        · rw [if_neg q2]
          have hp : pD Y b = false := by
            cases z : pD Y b with
            | false => rfl
            | true => exact absurd ⟨by omega, z⟩ q2
          rw [rn_x (by omega) hp] at he
          rw [← he, Nat.sub_self] at hv
          have hv : v = V := hv
          rw [← he] at fin
          rw [hv] at hv9 ⊢
          exact ⟨fun _ => fin u fu tu ffu su hv9, fun z => absurd rfl z⟩
    exact loop (N - s) s 0 w3 (by omega) fr3 t3 f3 s3 rfl hV (by omega)
  · rw [if_neg q]
    rw [if_neg q] at h
    refine ⟨fun z => absurd rfl z, fun _ => ?_⟩
    rw [t3.2.2.2.1]
    refine K_blame (k := 1) f3 (by decide) (by decide) (by omega) (fun u2 g1 g2 g3 g4 => ?_)
    rw [s_Ii]
    exact h u2 (fr3.trans g1) (t3.mv g1 (g2.trans t3.2.2.2.1) hsN) g4 (g3.trans s3)
theorem R_numH {d N a lo H : Nat} {x : Int32} {Y : Nat → Nat} {X : s_Xo} {f : Option (Nat × Nat)} {w : q_Sm} {Q : Int32 → q_Sm → Prop} (hlo : lo ≤ 999) (hH : H ≤ 1000) (hx : ∀ v, v < 2 ^ 20 → (nI v ≤ x ↔ v < H)) (hT : tR N Y a w) (hf : fR f w) (h : ∀ u a' v, fr aRx w u → tR N Y a' u → fR (orf f (numH N Y lo H a).1) u → (orf f (numH N Y lo H a).1 = none → a' = (numH N Y lo H a).2.2 ∧ v = nI (numH N Y lo H a).2.1) → Q v u) : s_EvI (d + 2) 0 mX12_readNumber w [.ref 79, .int (nI lo), .int x] Q X := by
  have h600 := hT.1
  have haN := hT.2.1
  have hsN := sk_le (Y := Y) haN
  unfold numH at h
  apply eX12_readNumber
  unfold vX12_readNumber_0
  refine R_fine hf (fun z => ?_) (fun z => ?_)
  rotate_left
  · refine ⟨fun z => absurd rfl z, fun _ => ?_⟩
    rw [s_Ii]
    cases f with
    | none => exact absurd rfl z
    | some x => exact h w a 0 (fr.refl _ _) hT hf (fun z => by simp [orf] at z)
  subst z
  refine ⟨fun _ => R_here hT hf (fun w3 fr3 t3 f3 => ?_), fun z => absurd (by decide) z⟩
  generalize sk N Y a = s at h t3 hsN
  have hpk : pk0 N Y s < 256 := by
    unfold pk0
    split
    · rename_i q; exact (t3.2.2.2.2 s q).1
    · decide
  refine R_isDigit hpk ?_
  by_cases q : s < N ∧ pD Y s = true
  · have hdg : 48 ≤ Y s ∧ Y s ≤ 57 := of_decide_eq_true q.2
    have hpe : pk0 N Y s = Y s := if_pos q.1
    rw [hpe, if_pos hdg]
    rw [if_pos q] at h
    refine ⟨fun _ => ?_, fun z => absurd (by decide) z⟩
    have hle := (rn_b (N := N) (p := pD Y) hsN).2.1
    have hge := (rn_b (N := N) (p := pD Y) hsN).1
    have hdig := (rn_b (N := N) (p := pD Y) hsN).2.2.1
    have hrel := vl_vr (Y := Y) (rn N (pD Y) s - s) s 0 0 (fun i h1 h2 => (of_decide_eq_true (hdig i h1 (by omega))).1) (Or.inl rfl)
    have hV : vlD N Y s = vlA Y (rn N (pD Y) s - s) s 0 := rfl
    rw [← hV] at hrel
    generalize vlD N Y s = V at h hrel
    rw [t3.2.2.2.1]
    have fin : ∀ (u : q_Sm) (v : Nat), fr aRx w u → tR N Y (rn N (pD Y) s) u → fR none u → v < 2 ^ 20 → (V = v ∨ (V = 9999 ∧ 9999 ≤ v)) → (nI v < nI lo → s_EvV (d + 1) 0 mX12_wrong u [.ref 79, .int 2, .int (nI s)] (fun u10 => s_I Q (some (.int 0)) u10) X) ∧ (¬ nI v < nI lo → (nI v ≤ x → s_I Q (some (.int (nI v))) u) ∧ (¬ nI v ≤ x → s_EvV (d + 1) 0 mX12_wrong u [.ref 79, .int 2, .int (nI s)] (fun u12 => s_I Q (some (.int 0)) u12) X)) := by
      intro u v fu tu ffu hv9 hr
      rw [nI_ltI (by omega) (by omega), hx v hv9]
      refine ⟨fun z => ?_, fun z => ⟨fun z2 => ?_, fun z2 => ?_⟩⟩
      · refine R_wrong (k := 2) ffu (by decide) (by decide) (by omega) (fun u2 g1 g2 g4 => ?_)
        rw [if_neg (by omega)] at h
        rw [s_Ii]
        exact h u2 _ 0 (fu.trans g1) (tu.mv g1 (g2.trans tu.2.2.2.1) hle) g4 (fun z => by simp [orf] at z)
      · rw [if_pos ⟨by omega, by omega⟩] at h
        rw [s_Ii]
        exact h u _ _ fu tu ffu (fun _ => ⟨rfl, by show nI v = nI V; congr 1; omega⟩)
      · refine R_wrong (k := 2) ffu (by decide) (by decide) (by omega) (fun u2 g1 g2 g4 => ?_)
        rw [if_neg (by omega)] at h
        rw [s_Ii]
        exact h u2 _ 0 (fu.trans g1) (tu.mv g1 (g2.trans tu.2.2.2.1) hle) g4 (fun z => by simp [orf] at z)
    have loop : ∀ j b v (u : q_Sm), b + j = N → fr aRx w u → tR N Y b u → fR none u → rn N (pD Y) b = rn N (pD Y) s → (V = vrA Y (rn N (pD Y) s - b) b v ∨ (V = 9999 ∧ 9999 ≤ vrA Y (rn N (pD Y) s - b) b v)) → v < 2 ^ 20 → s_Ex (d + 2) 0 mX12_readNumber 41 [some (.ref 79), some (.int (nI lo)), some (.int x), none, some (.int (nI s)), some (.int (nI v))] [] u (s_I Q) X := by
      intro j
      induction j with
      | zero =>
        intro b v u hb fu tu ffu he hv hv9
        rw [rn_e (by omega)] at he
        rw [← he, Nat.sub_self] at hv
        have hv : V = v ∨ (V = 9999 ∧ 9999 ≤ v) := hv
        rw [← he] at fin
        apply xX12_readNumber_41
        unfold vX12_readNumber_41
        rw [tu.2.2.1, tu.2.2.2.1, nI_leI (by omega) (by omega)]
        exact ⟨fun _ => fin u v fu tu ffu hv9 hv, fun z => absurd (by omega) z⟩
      | succ j ih =>
        intro b v u hb fu tu ffu he hv hv9
        obtain ⟨hyb, hby⟩ := tu.2.2.2.2 b (by omega)
        have hin : vp_in (nI b) 600 := (vp_nI (by omega)).mpr (by omega)
        apply xX12_readNumber_41
        unfold vX12_readNumber_41
        rw [tu.2.2.1, tu.2.2.2.1, nI_leI (by omega) (by omega), nI_clamp (by omega), hby]
        refine ⟨fun z => absurd z (by omega), fun _ => ⟨hin, R_isDigit hyb ?_⟩⟩
        by_cases q2 : 48 ≤ Y b ∧ Y b ≤ 57
        · have hpb : pD Y b = true := decide_eq_true q2
          rw [if_pos q2]
          refine ⟨fun z => absurd z (by decide), fun _ => ?_⟩
          have e1 : 10 * nI v + nI (Y b) - 48 = nI (10 * v + Y b - 48) := by try simp (disch := omega) only [s_Ii, s_Jj, s_Vn, forall_eq, L_m1, nI_add, nI_clamp, nI_leI, nI_ltI, nI_eq, vp_nI, pk_mul, pk_sub, Nat.zero_add, Nat.add_zero, wr_2, Classical.not_not, true_and, and_true, ne_eq, false_implies, true_implies, implies_true, not_true_eq_false, not_false_eq_true, ia_0, ia_1, za_1, ia_2, za_2, ia_3, za_3, ia_4, za_4, ia_5, za_5, ia_6, za_6, ia_7, za_7, ia_8, za_8, ia_9, za_9, ia_10, za_10, ia_11, za_11, ia_12, za_12, ia_13, za_13, ia_14, za_14, ia_15, za_15, ib_0, ib_1, zb_1, ic_0, ic_1, ic_2, ic_3, zc_1, zc_2, zc_3, id_0, id_1, id_2, id_3, zd_1, zd_2, zd_3, L_0, L_1, L_2, L_3, L_4, L_5, L_6, L_7, L_8, L_9, L_10, L_11, L_12, L_13, L_14, L_15, L_16, L_17, L_18, L_19, L_20, L_24, L_27, L_30, L_31, L_32, L_35, L_36, L_40, L_41, L_43, L_44, L_45, L_46, L_47, L_48, L_50, L_54, L_57, L_58, L_59, L_60, L_61, L_62, L_63, L_91, L_93, L_96, L_97, L_98, L_99, L_100, L_103, L_122, L_145, L_150, L_200, L_255, L_600, L_999, L_1000, L_2000, L_9999, L_10000, L_32767, L_12345, oI_s, oI_n, L_mn, if_true, if_false, ite_true, ite_false, Bool.false_eq_true, Nat.reduceEqDiff, Nat.reduceLeDiff, Nat.reduceLT, Nat.reduceAdd, Nat.reduceSub, Nat.reduceMul, Nat.le_refl, Nat.lt_irrefl, Nat.not_lt_zero]
          rw [rn_y (by omega) hpb] at he
          have hge2 := (rn_b (N := N) (p := pD Y) (a := b + 1) (by omega)).1
          rw [he] at hge2
          rw [show rn N (pD Y) s - b = (rn N (pD Y) s - (b + 1)) + 1 by omega, vrA] at hv
          rw [tu.2.2.2.1, nI_clamp (by omega), hby, e1, nI_1 b, L_9999, nI_leI (by omega) (by omega)]
          refine ⟨fun z => ⟨hin, ?_⟩, fun z => ?_⟩
          · rw [if_neg (by omega)] at hv
            intro w6 e6
            have f6 : fr aRx u w6 := by rw [e6]; exact fr.wr rfl
            exact ih (b + 1) _ w6 (by omega) (fu.trans f6) (tu.mv f6 (by rw [e6, rd_s]) (by omega)) (ffu.mv (by rw [e6, rd_j (by decide)]) (by rw [e6, rd_j (by decide)])) he hv (by omega)
          · rw [if_pos (by omega)] at hv
            intro w6 e6
            have f6 : fr aRx u w6 := by rw [e6]; exact fr.wr rfl
            exact ih (b + 1) 10000 w6 (by omega) (fu.trans f6) (tu.mv f6 (by rw [e6, rd_s]) (by omega)) (ffu.mv (by rw [e6, rd_j (by decide)]) (by rw [e6, rd_j (by decide)])) he hv (by decide)
        · rw [if_neg q2]
          have hp : pD Y b = false := decide_eq_false q2
          rw [rn_x (by omega) hp] at he
          rw [← he, Nat.sub_self] at hv
          have hv : V = v ∨ (V = 9999 ∧ 9999 ≤ v) := hv
          rw [← he] at fin
          exact ⟨fun _ => fin u v fu tu ffu hv9 hv, fun z => absurd rfl z⟩
    exact loop (N - s) s 0 w3 (by omega) fr3 t3 f3 rfl hrel (by decide)
  · have hnd : ¬ (48 ≤ pk0 N Y s ∧ pk0 N Y s ≤ 57) := by
      intro z
      unfold pk0 at z
      by_cases q2 : s < N
      · rw [if_pos q2] at z
        exact q ⟨q2, decide_eq_true z⟩
      · rw [if_neg q2] at z
        omega
    rw [if_neg hnd]
    rw [if_neg q] at h
    refine ⟨fun z => absurd rfl z, fun _ => ?_⟩
    rw [t3.2.2.2.1]
    refine R_wrong (k := 1) f3 (by decide) (by decide) (by omega) (fun u2 g1 g2 g4 => ?_)
    rw [s_Ii]
    exact h u2 _ 0 (fr3.trans g1) (t3.mv g1 (g2.trans t3.2.2.2.1) hsN) g4 (fun z => by simp [orf] at z)
