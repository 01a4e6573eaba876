/-! the reference reads clauses -/
/-- the place counts while no fault stands -/
def tRf (N : Nat) (Y : Nat → Nat) (f : Option (Nat × Nat)) (a : Nat) (w : q_Sm) : Prop := ∃ a', tR N Y a' w ∧ (f = none → a' = a)
theorem tRf.of {N a : Nat} {Y : Nat → Nat} {f : Option (Nat × Nat)} {w : q_Sm} (h : tR N Y a w) : tRf N Y f a w := ⟨a, h, fun _ => rfl⟩
theorem tRf.g {N a : Nat} {Y : Nat → Nat} {f : Option (Nat × Nat)} {w u : q_Sm} (h : tRf N Y f a w) (g : ∀ i j, (i = 79 ∧ (j = 3 ∨ j = 4)) ∨ i = 81 → u.1 i j = w.1 i j) : tRf N Y f a u := by
  obtain ⟨a', h1, h2⟩ := h
  exact ⟨a', h1.g g, h2⟩
theorem tRf.no {N a : Nat} {Y : Nat → Nat} {w : q_Sm} (h : tRf N Y none a w) : tR N Y a w := by
  obtain ⟨a', h1, h2⟩ := h
  rw [← h2 rfl]
  exact h1
theorem orf_some (y : Nat × Nat) (g : Option (Nat × Nat)) : orf (some y) g = some y := rfl
theorem orf_none (g : Option (Nat × Nat)) : orf none g = g := rfl
theorem S_number {d N a lo hi : Nat} {Y : Nat → Nat} {X : s_Xo} {f : Option (Nat × Nat)} {w : q_Sm} {Q : Int32 → q_Sm → Prop} (hlo : lo ≤ 999) (hhi : hi ≤ 999) (hT : tRf N Y f a w) (hf : fR f w) (h : ∀ u v, fr aRx w u → tRf N Y (orf f (num N Y lo hi a).1) (num N Y lo hi a).2.2 u → fR (orf f (num N Y lo hi a).1) u → (orf f (num N Y lo hi a).1 = none → v = nI (num N Y lo hi a).2.1) → Q v u) : s_EvI (d + 2) 0 mX12_readNumber w [.ref 79, .int (nI lo), .int (nI hi)] Q X := by
  obtain ⟨a', h1, h2⟩ := hT
  cases f with
  | none =>
    have e := h2 rfl
    subst e
    exact R_readNumber hlo hhi h1 hf (fun u b v fu tu ffu hv => h u v fu ⟨b, tu, fun z => (hv z).1⟩ ffu (fun z => (hv z).2))
  | some y =>
    exact R_readNumber hlo hhi h1 hf (fun u b v fu tu ffu hv => h u v fu ⟨b, tu, fun z => by simp [orf] at z⟩ ffu (fun z => by simp [orf] at z))
theorem S_numH {d N a lo H : Nat} {x : Int32} {Y : Nat → Nat} {X : s_Xo} {f : Option (Nat × Nat)} {w : q_Sm} {Q : Int32 → q_Sm → Prop} (hlo : lo ≤ 999) (hH : H ≤ 1000) (hx : ∀ v, v < 2 ^ 20 → (nI v ≤ x ↔ v < H)) (hT : tRf N Y f a w) (hf : fR f w) (h : ∀ u v, fr aRx w u → tRf N Y (orf f (numH N Y lo H a).1) (numH N Y lo H a).2.2 u → fR (orf f (numH N Y lo H a).1) u → (orf f (numH N Y lo H a).1 = none → v = nI (numH N Y lo H a).2.1) → Q v u) : s_EvI (d + 2) 0 mX12_readNumber w [.ref 79, .int (nI lo), .int x] Q X := by
  obtain ⟨a', h1, h2⟩ := hT
  cases f with
  | none =>
    have e := h2 rfl
    subst e
    exact R_numH hlo hH hx h1 hf (fun u b v fu tu ffu hv => h u v fu ⟨b, tu, fun z => (hv z).1⟩ ffu (fun z => (hv z).2))
  | some y =>
    exact R_numH hlo hH hx h1 hf (fun u b v fu tu ffu hv => h u v fu ⟨b, tu, fun z => by simp [orf] at z⟩ ffu (fun z => by simp [orf] at z))
theorem S_colour {d N a : Nat} {Y : Nat → Nat} {X : s_Xo} {f : Option (Nat × Nat)} {w : q_Sm} {Q : Int32 → q_Sm → Prop} (hT : tRf N Y f a w) (hf : fR f w) (h : ∀ u v, fr aRx w u → tRf N Y (orf f (col N Y a).1) (col N Y a).2.2 u → fR (orf f (col N Y a).1) u → (orf f (col N Y a).1 = none → v = nI (col N Y a).2.1) → Q v u) : s_EvI (d + 7) 0 mX12_readColour w [.ref 79] Q X := by
  obtain ⟨a', h1, h2⟩ := hT
  cases f with
  | none =>
    have e := h2 rfl
    subst e
    exact R_readColour h1 hf (fun u b v fu tu ffu hv => h u v fu ⟨b, tu, fun z => (hv z).1⟩ ffu (fun z => (hv z).2))
  | some y =>
    exact R_readColour h1 hf (fun u b v fu tu ffu hv => h u v fu ⟨b, tu, fun z => by simp [orf] at z⟩ ffu (fun z => by simp [orf] at z))
theorem S_sign {d N a c : Nat} {Y : Nat → Nat} {X : s_Xo} {f : Option (Nat × Nat)} {w : q_Sm} {Q : q_Sm → Prop} (hc : c < 256) (hc0 : 0 < c) (hT : tRf N Y f a w) (hf : fR f w) (h : ∀ u, fr aRx w u → tRf N Y (orf f (sig N Y c a).1) (sig N Y c a).2 u → fR (orf f (sig N Y c a).1) u → Q u) : s_EvV (d + 2) 0 mX12_sign w [.ref 79, .int (nI c)] Q X := by
  obtain ⟨a', h1, h2⟩ := hT
  cases f with
  | none =>
    have e := h2 rfl
    subst e
    exact R_sign hc hc0 h1 hf (fun u b fu tu hv ffu => h u fu ⟨b, tu, hv⟩ ffu)
  | some y =>
    exact R_sign hc hc0 h1 hf (fun u b fu tu hv ffu => h u fu ⟨b, tu, fun z => by simp [orf] at z⟩ ffu)
theorem aRc_w {i j : Nat} (h : (i = 79 ∧ 24 ≤ j ∧ j ≤ 28) ∨ (82 ≤ i ∧ i ≤ 88)) : aRc i j = true := by
  rcases h with ⟨rfl, h1, h2⟩ | ⟨h1, h2⟩
  · simp [aRc, h1, h2]
  · simp [aRc, h1, h2]
theorem S_rdcr {d N a : Nat} {Y : Nat → Nat} {T : Tb} {X : s_Xo} {w : q_Sm} {Q : q_Sm → Prop} (ht : tb T) (hr : T 7 0 < 6) (hT : tR N Y a w) (hf : fR none w) (hD : rD T w)
    (h : ∀ u, fr aRc w u → fR (crF N Y T a) u → (crF N Y T a = none → tR N Y (crA N Y T a) u ∧ rD (crT N Y T a) u) → Q u) : s_EvV (d + 3) 0 mX12_readCreditor w [.ref 79] Q X := by
  have hcw : w.1 79 24 = nI (T 7 0) := hD.1.1
  apply eX12_readCreditor
  unfold vX12_readCreditor_0
  rw [hcw]
  refine S_number (d := d + 0) (lo := 0) (hi := 19) (by decide) (by decide) (tRf.of hT) hf (fun u1 v1 f1 t1 ff1 hv1 => ?_)
  have ei1 : nI 2 * nI (T 7 0) = nI (2 * T 7 0) := by try simp (disch := omega) only [s_Ii, s_Jj, s_Vn, forall_eq, L_m1, nI_add, nI_clamp, nI_leI, nI_ltI, nI_eq, vp_nI, pk_mul, pk_sub, Nat.zero_add, Nat.add_zero, wr_2, Classical.not_not, true_and, and_true, ne_eq, false_implies, true_implies, implies_true, not_true_eq_false, not_false_eq_true, ia_0, ia_1, za_1, ia_2, za_2, ia_3, za_3, ia_4, za_4, ia_5, za_5, ia_6, za_6, ia_7, za_7, ia_8, za_8, ia_9, za_9, ia_10, za_10, ia_11, za_11, ia_12, za_12, ia_13, za_13, ia_14, za_14, ia_15, za_15, ib_0, ib_1, zb_1, ic_0, ic_1, ic_2, ic_3, zc_1, zc_2, zc_3, id_0, id_1, id_2, id_3, zd_1, zd_2, zd_3, L_0, L_1, L_2, L_3, L_4, L_5, L_6, L_7, L_8, L_9, L_10, L_11, L_12, L_13, L_14, L_15, L_16, L_17, L_18, L_19, L_20, L_24, L_27, L_30, L_31, L_32, L_35, L_36, L_40, L_41, L_43, L_44, L_45, L_46, L_47, L_48, L_50, L_54, L_57, L_58, L_59, L_60, L_61, L_62, L_63, L_91, L_93, L_96, L_97, L_98, L_99, L_100, L_103, L_122, L_145, L_150, L_200, L_255, L_600, L_999, L_1000, L_2000, L_9999, L_10000, L_32767, L_12345, oI_s, oI_n, L_mn, if_true, if_false, ite_true, ite_false, Bool.false_eq_true, Nat.reduceEqDiff, Nat.reduceLeDiff, Nat.reduceLT, Nat.reduceAdd, Nat.reduceSub, Nat.reduceMul, Nat.le_refl, Nat.lt_irrefl, Nat.not_lt_zero]
  refine ⟨?_, ?_⟩
  · show vp_in (nI 2 * nI (T 7 0)) 12
    rw [ei1]
    exact (vp_nI (by omega)).mpr (by omega)
  intro w1 e1
  have e1 : w1 = q_wI u1 82 (2 * T 7 0) v1 := by
    have e0 : w1 = q_wI u1 82 (Int32.toNatClampNeg (nI 2 * nI (T 7 0))) v1 := e1
    rw [ei1, nI_clamp (by omega)] at e0
    exact e0
  have g1 : ∀ i j, ¬ (i = 82 ∧ j = 2 * T 7 0) → w1.1 i j = u1.1 i j := fun i j q => by rw [e1, rd_ne q]
  have x1 : tRf N Y _ _ w1 := t1.g (fun i j q => g1 i j (by omega))
  have y1 : fR _ w1 := ff1.mv (g1 _ _ (by omega)) (g1 _ _ (by omega))
  have k1 : ∀ i j, (i = 79 ∧ 24 ≤ j ∧ j ≤ 28) ∨ (82 ≤ i ∧ i ≤ 88) → ¬ (i = 82 ∧ j = 2 * T 7 0) → w1.1 i j = w.1 i j := fun i j q q2 => (g1 i j q2).trans (f1.2 i j (aRx_n (by omega)))
  rw [show w1.1 79 24 = nI (T 7 0) from (k1 _ _ (by omega) (by omega)).trans hcw]
  have hcw1 : w1.1 79 24 = nI (T 7 0) := (k1 _ _ (by omega) (by omega)).trans hcw
  refine S_number (d := d + 0) (lo := 0) (hi := 20) (by decide) (by decide) x1 y1 (fun u2 v2 f2 t2 ff2 hv2 => ?_)
  have ei2 : nI 2 * nI (T 7 0) + nI 1 = nI (2 * T 7 0 + 1) := by try simp (disch := omega) only [s_Ii, s_Jj, s_Vn, forall_eq, L_m1, nI_add, nI_clamp, nI_leI, nI_ltI, nI_eq, vp_nI, pk_mul, pk_sub, Nat.zero_add, Nat.add_zero, wr_2, Classical.not_not, true_and, and_true, ne_eq, false_implies, true_implies, implies_true, not_true_eq_false, not_false_eq_true, ia_0, ia_1, za_1, ia_2, za_2, ia_3, za_3, ia_4, za_4, ia_5, za_5, ia_6, za_6, ia_7, za_7, ia_8, za_8, ia_9, za_9, ia_10, za_10, ia_11, za_11, ia_12, za_12, ia_13, za_13, ia_14, za_14, ia_15, za_15, ib_0, ib_1, zb_1, ic_0, ic_1, ic_2, ic_3, zc_1, zc_2, zc_3, id_0, id_1, id_2, id_3, zd_1, zd_2, zd_3, L_0, L_1, L_2, L_3, L_4, L_5, L_6, L_7, L_8, L_9, L_10, L_11, L_12, L_13, L_14, L_15, L_16, L_17, L_18, L_19, L_20, L_24, L_27, L_30, L_31, L_32, L_35, L_36, L_40, L_41, L_43, L_44, L_45, L_46, L_47, L_48, L_50, L_54, L_57, L_58, L_59, L_60, L_61, L_62, L_63, L_91, L_93, L_96, L_97, L_98, L_99, L_100, L_103, L_122, L_145, L_150, L_200, L_255, L_600, L_999, L_1000, L_2000, L_9999, L_10000, L_32767, L_12345, oI_s, oI_n, L_mn, if_true, if_false, ite_true, ite_false, Bool.false_eq_true, Nat.reduceEqDiff, Nat.reduceLeDiff, Nat.reduceLT, Nat.reduceAdd, Nat.reduceSub, Nat.reduceMul, Nat.le_refl, Nat.lt_irrefl, Nat.not_lt_zero]
  refine ⟨?_, ?_⟩
  · show vp_in (nI 2 * nI (T 7 0) + nI 1) 12
    rw [ei2]
    exact (vp_nI (by omega)).mpr (by omega)
  intro w2 e2
  have e2 : w2 = q_wI u2 82 (2 * T 7 0 + 1) v2 := by
    have e0 : w2 = q_wI u2 82 (Int32.toNatClampNeg (nI 2 * nI (T 7 0) + nI 1)) v2 := e2
    rw [ei2, nI_clamp (by omega)] at e0
    exact e0
  have g2 : ∀ i j, ¬ (i = 82 ∧ j = 2 * T 7 0 + 1) → w2.1 i j = u2.1 i j := fun i j q => by rw [e2, rd_ne q]
  have x2 : tRf N Y _ _ w2 := t2.g (fun i j q => g2 i j (by omega))
  have y2 : fR _ w2 := ff2.mv (g2 _ _ (by omega)) (g2 _ _ (by omega))
  have k2 : ∀ i j, (i = 79 ∧ 24 ≤ j ∧ j ≤ 28) ∨ (82 ≤ i ∧ i ≤ 88) → ¬ (i = 82 ∧ j = 2 * T 7 0 + 1) → w2.1 i j = w1.1 i j := fun i j q q2 => (g2 i j q2).trans (f2.2 i j (aRx_n (by omega)))
  intro w9 e9
  rw [s_Vn]
  have hcn : w2.1 79 24 = nI (T 7 0) := ((k2 _ _ (by omega) (by omega)).trans ((k1 _ _ (by omega) (by omega)).trans hcw))
  rw [hcn, nI_1] at e9
  have g9 : ∀ i j, ¬ (i = 79 ∧ j = 24) → w9.1 i j = w2.1 i j := fun i j q => by rw [e9, rd_ne q]
  have z9 : tRf N Y _ _ w9 := x2.g (fun i j q => g9 i j (by omega))
  have q9 : fR _ w9 := y2.mv (g9 _ _ (by omega)) (g9 _ _ (by omega))
  simp only [orf_a, orf_none] at z9 q9
  have z9 : tRf N Y (crF N Y T a) (crA N Y T a) w9 := z9
  have q9 : fR (crF N Y T a) w9 := q9
  refine h w9 ((((((fr.refl aRc w).trans (aRc_x f1)).trans (show fr aRc u1 w1 by rw [e1]; exact fr.wr (aRc_w (by omega)))).trans (aRc_x f2)).trans (show fr aRc u2 w2 by rw [e2]; exact fr.wr (aRc_w (by omega)))).trans (by rw [e9]; exact fr.wr (aRc_w (by omega)))) q9 (fun hz => ⟨?_, ?_⟩)
  · rw [hz] at z9
    exact z9.no
  have hz0 : (crF N Y T a) = none := hz
  unfold crF at hz0
  simp only [orf_nn] at hz0
  obtain ⟨o1, o2⟩ := hz0
  have vv1 : v1 = nI (crR1 N Y T a).2.1 := hv1 o1
  have vv2 : v2 = nI (crR2 N Y T a).2.1 := hv2 (by simp only [orf_a, orf_none]; simp only [orf_nn]; exact ⟨o1, o2⟩)
  obtain ⟨⟨a1, a2, a3, a4, a5⟩, b1, b2, b3, b4, b5, b6, b7⟩ := hD
  refine ⟨⟨?_, (((g9 _ _ (by omega)).trans (k2 _ _ (by omega) (by omega))).trans (k1 _ _ (by omega) (by omega))).trans a2, (((g9 _ _ (by omega)).trans (k2 _ _ (by omega) (by omega))).trans (k1 _ _ (by omega) (by omega))).trans a3, (((g9 _ _ (by omega)).trans (k2 _ _ (by omega) (by omega))).trans (k1 _ _ (by omega) (by omega))).trans a4, (((g9 _ _ (by omega)).trans (k2 _ _ (by omega) (by omega))).trans (k1 _ _ (by omega) (by omega))).trans a5⟩, ?_, b2.eq (fun j => (((g9 _ _ (by omega)).trans (k2 _ _ (by omega) (by omega))).trans (k1 _ _ (by omega) (by omega)))), b3.eq (fun j => (((g9 _ _ (by omega)).trans (k2 _ _ (by omega) (by omega))).trans (k1 _ _ (by omega) (by omega)))), b4.eq (fun j => (((g9 _ _ (by omega)).trans (k2 _ _ (by omega) (by omega))).trans (k1 _ _ (by omega) (by omega)))), b5.eq (fun j => (((g9 _ _ (by omega)).trans (k2 _ _ (by omega) (by omega))).trans (k1 _ _ (by omega) (by omega)))), b6.eq (fun j => (((g9 _ _ (by omega)).trans (k2 _ _ (by omega) (by omega))).trans (k1 _ _ (by omega) (by omega)))), b7.eq (fun j => (((g9 _ _ (by omega)).trans (k2 _ _ (by omega) (by omega))).trans (k1 _ _ (by omega) (by omega))))⟩
  · show w9.1 79 24 = nI (T 7 0 + 1)
    rw [e9, rd_s]
  · show holds 82 (2 * (T 7 0 + 1)) (up (up (T 0) (2 * T 7 0) (crR1 N Y T a).2.1) (2 * T 7 0 + 1) (crR2 N Y T a).2.1) w9
    refine holds_m b1 (fun j hj => (((g9 _ _ (by omega)).trans (k2 _ _ (by omega) (by omega))).trans (k1 _ _ (by omega) (by omega)))) (fun j hj => ?_) (fun j h1 h2 => ?_)
    · rw [up_n (by omega), up_n (by omega)]
    · rcases (show j = 2 * T 7 0 ∨ j = 2 * T 7 0 + 1 by omega) with q | q
      · rw [q, up_n (by omega), up_s, g9 _ _ (by omega), k2 _ _ (by omega) (by omega), e1, rd_s, vv1]
      · rw [q, up_s, g9 _ _ (by omega), e2, rd_s, vv2]
theorem S_rdwd {d N a : Nat} {Y : Nat → Nat} {T : Tb} {X : s_Xo} {w : q_Sm} {Q : q_Sm → Prop} (ht : tb T) (hr : T 7 3 < 6) (hT : tR N Y a w) (hf : fR none w) (hD : rD T w)
    (h : ∀ u, fr aRc w u → fR (wdF N Y T a) u → (wdF N Y T a = none → tR N Y (wdA N Y T a) u ∧ rD (wdT N Y T a) u) → Q u) : s_EvV (d + 8) 0 mX12_readWedding w [.ref 79] Q X := by
  have hcw : w.1 79 27 = nI (T 7 3) := hD.1.2.2.2.1
  apply eX12_readWedding
  unfold vX12_readWedding_0
  rw [hcw]
  refine S_colour (d := d + 0) (tRf.of hT) hf (fun u1 v1 f1 t1 ff1 hv1 => ?_)
  have ei1 : nI 3 * nI (T 7 3) = nI (3 * T 7 3) := by try simp (disch := omega) only [s_Ii, s_Jj, s_Vn, forall_eq, L_m1, nI_add, nI_clamp, nI_leI, nI_ltI, nI_eq, vp_nI, pk_mul, pk_sub, Nat.zero_add, Nat.add_zero, wr_2, Classical.not_not, true_and, and_true, ne_eq, false_implies, true_implies, implies_true, not_true_eq_false, not_false_eq_true, ia_0, ia_1, za_1, ia_2, za_2, ia_3, za_3, ia_4, za_4, ia_5, za_5, ia_6, za_6, ia_7, za_7, ia_8, za_8, ia_9, za_9, ia_10, za_10, ia_11, za_11, ia_12, za_12, ia_13, za_13, ia_14, za_14, ia_15, za_15, ib_0, ib_1, zb_1, ic_0, ic_1, ic_2, ic_3, zc_1, zc_2, zc_3, id_0, id_1, id_2, id_3, zd_1, zd_2, zd_3, L_0, L_1, L_2, L_3, L_4, L_5, L_6, L_7, L_8, L_9, L_10, L_11, L_12, L_13, L_14, L_15, L_16, L_17, L_18, L_19, L_20, L_24, L_27, L_30, L_31, L_32, L_35, L_36, L_40, L_41, L_43, L_44, L_45, L_46, L_47, L_48, L_50, L_54, L_57, L_58, L_59, L_60, L_61, L_62, L_63, L_91, L_93, L_96, L_97, L_98, L_99, L_100, L_103, L_122, L_145, L_150, L_200, L_255, L_600, L_999, L_1000, L_2000, L_9999, L_10000, L_32767, L_12345, oI_s, oI_n, L_mn, if_true, if_false, ite_true, ite_false, Bool.false_eq_true, Nat.reduceEqDiff, Nat.reduceLeDiff, Nat.reduceLT, Nat.reduceAdd, Nat.reduceSub, Nat.reduceMul, Nat.le_refl, Nat.lt_irrefl, Nat.not_lt_zero]
  refine ⟨?_, ?_⟩
  · show vp_in (nI 3 * nI (T 7 3)) 18
    rw [ei1]
    exact (vp_nI (by omega)).mpr (by omega)
  intro w1 e1
  have e1 : w1 = q_wI u1 87 (3 * T 7 3) v1 := by
    have e0 : w1 = q_wI u1 87 (Int32.toNatClampNeg (nI 3 * nI (T 7 3))) v1 := e1
    rw [ei1, nI_clamp (by omega)] at e0
    exact e0
  have g1 : ∀ i j, ¬ (i = 87 ∧ j = 3 * T 7 3) → w1.1 i j = u1.1 i j := fun i j q => by rw [e1, rd_ne q]
  have x1 : tRf N Y _ _ w1 := t1.g (fun i j q => g1 i j (by omega))
  have y1 : fR _ w1 := ff1.mv (g1 _ _ (by omega)) (g1 _ _ (by omega))
  have k1 : ∀ i j, (i = 79 ∧ 24 ≤ j ∧ j ≤ 28) ∨ (82 ≤ i ∧ i ≤ 88) → ¬ (i = 87 ∧ j = 3 * T 7 3) → w1.1 i j = w.1 i j := fun i j q q2 => (g1 i j q2).trans (f1.2 i j (aRx_n (by omega)))
  refine S_number (d := d + 5) (lo := 1) (hi := 40) (by decide) (by decide) x1 y1 (fun u2 v2 f2 t2 ff2 hv2 => ?_)
  have ei2 : nI 3 * nI (T 7 3) + nI 1 = nI (3 * T 7 3 + 1) := by try simp (disch := omega) only [s_Ii, s_Jj, s_Vn, forall_eq, L_m1, nI_add, nI_clamp, nI_leI, nI_ltI, nI_eq, vp_nI, pk_mul, pk_sub, Nat.zero_add, Nat.add_zero, wr_2, Classical.not_not, true_and, and_true, ne_eq, false_implies, true_implies, implies_true, not_true_eq_false, not_false_eq_true, ia_0, ia_1, za_1, ia_2, za_2, ia_3, za_3, ia_4, za_4, ia_5, za_5, ia_6, za_6, ia_7, za_7, ia_8, za_8, ia_9, za_9, ia_10, za_10, ia_11, za_11, ia_12, za_12, ia_13, za_13, ia_14, za_14, ia_15, za_15, ib_0, ib_1, zb_1, ic_0, ic_1, ic_2, ic_3, zc_1, zc_2, zc_3, id_0, id_1, id_2, id_3, zd_1, zd_2, zd_3, L_0, L_1, L_2, L_3, L_4, L_5, L_6, L_7, L_8, L_9, L_10, L_11, L_12, L_13, L_14, L_15, L_16, L_17, L_18, L_19, L_20, L_24, L_27, L_30, L_31, L_32, L_35, L_36, L_40, L_41, L_43, L_44, L_45, L_46, L_47, L_48, L_50, L_54, L_57, L_58, L_59, L_60, L_61, L_62, L_63, L_91, L_93, L_96, L_97, L_98, L_99, L_100, L_103, L_122, L_145, L_150, L_200, L_255, L_600, L_999, L_1000, L_2000, L_9999, L_10000, L_32767, L_12345, oI_s, oI_n, L_mn, if_true, if_false, ite_true, ite_false, Bool.false_eq_true, Nat.reduceEqDiff, Nat.reduceLeDiff, Nat.reduceLT, Nat.reduceAdd, Nat.reduceSub, Nat.reduceMul, Nat.le_refl, Nat.lt_irrefl, Nat.not_lt_zero]
  refine ⟨?_, ?_⟩
  · show vp_in (nI 3 * nI (T 7 3) + nI 1) 18
    rw [ei2]
    exact (vp_nI (by omega)).mpr (by omega)
  intro w2 e2
  have e2 : w2 = q_wI u2 87 (3 * T 7 3 + 1) v2 := by
    have e0 : w2 = q_wI u2 87 (Int32.toNatClampNeg (nI 3 * nI (T 7 3) + nI 1)) v2 := e2
    rw [ei2, nI_clamp (by omega)] at e0
    exact e0
  have g2 : ∀ i j, ¬ (i = 87 ∧ j = 3 * T 7 3 + 1) → w2.1 i j = u2.1 i j := fun i j q => by rw [e2, rd_ne q]
  have x2 : tRf N Y _ _ w2 := t2.g (fun i j q => g2 i j (by omega))
  have y2 : fR _ w2 := ff2.mv (g2 _ _ (by omega)) (g2 _ _ (by omega))
  have k2 : ∀ i j, (i = 79 ∧ 24 ≤ j ∧ j ≤ 28) ∨ (82 ≤ i ∧ i ≤ 88) → ¬ (i = 87 ∧ j = 3 * T 7 3 + 1) → w2.1 i j = w1.1 i j := fun i j q q2 => (g2 i j q2).trans (f2.2 i j (aRx_n (by omega)))
  refine S_number (d := d + 5) (lo := 0) (hi := 60) (by decide) (by decide) x2 y2 (fun u3 v3 f3 t3 ff3 hv3 => ?_)
  have ei3 : nI 3 * nI (T 7 3) + nI 2 = nI (3 * T 7 3 + 2) := by try simp (disch := omega) only [s_Ii, s_Jj, s_Vn, forall_eq, L_m1, nI_add, nI_clamp, nI_leI, nI_ltI, nI_eq, vp_nI, pk_mul, pk_sub, Nat.zero_add, Nat.add_zero, wr_2, Classical.not_not, true_and, and_true, ne_eq, false_implies, true_implies, implies_true, not_true_eq_false, not_false_eq_true, ia_0, ia_1, za_1, ia_2, za_2, ia_3, za_3, ia_4, za_4, ia_5, za_5, ia_6, za_6, ia_7, za_7, ia_8, za_8, ia_9, za_9, ia_10, za_10, ia_11, za_11, ia_12, za_12, ia_13, za_13, ia_14, za_14, ia_15, za_15, ib_0, ib_1, zb_1, ic_0, ic_1, ic_2, ic_3, zc_1, zc_2, zc_3, id_0, id_1, id_2, id_3, zd_1, zd_2, zd_3, L_0, L_1, L_2, L_3, L_4, L_5, L_6, L_7, L_8, L_9, L_10, L_11, L_12, L_13, L_14, L_15, L_16, L_17, L_18, L_19, L_20, L_24, L_27, L_30, L_31, L_32, L_35, L_36, L_40, L_41, L_43, L_44, L_45, L_46, L_47, L_48, L_50, L_54, L_57, L_58, L_59, L_60, L_61, L_62, L_63, L_91, L_93, L_96, L_97, L_98, L_99, L_100, L_103, L_122, L_145, L_150, L_200, L_255, L_600, L_999, L_1000, L_2000, L_9999, L_10000, L_32767, L_12345, oI_s, oI_n, L_mn, if_true, if_false, ite_true, ite_false, Bool.false_eq_true, Nat.reduceEqDiff, Nat.reduceLeDiff, Nat.reduceLT, Nat.reduceAdd, Nat.reduceSub, Nat.reduceMul, Nat.le_refl, Nat.lt_irrefl, Nat.not_lt_zero]
  refine ⟨?_, ?_⟩
  · show vp_in (nI 3 * nI (T 7 3) + nI 2) 18
    rw [ei3]
    exact (vp_nI (by omega)).mpr (by omega)
  intro w3 e3
  have e3 : w3 = q_wI u3 87 (3 * T 7 3 + 2) v3 := by
    have e0 : w3 = q_wI u3 87 (Int32.toNatClampNeg (nI 3 * nI (T 7 3) + nI 2)) v3 := e3
    rw [ei3, nI_clamp (by omega)] at e0
    exact e0
  have g3 : ∀ i j, ¬ (i = 87 ∧ j = 3 * T 7 3 + 2) → w3.1 i j = u3.1 i j := fun i j q => by rw [e3, rd_ne q]
  have x3 : tRf N Y _ _ w3 := t3.g (fun i j q => g3 i j (by omega))
  have y3 : fR _ w3 := ff3.mv (g3 _ _ (by omega)) (g3 _ _ (by omega))
  have k3 : ∀ i j, (i = 79 ∧ 24 ≤ j ∧ j ≤ 28) ∨ (82 ≤ i ∧ i ≤ 88) → ¬ (i = 87 ∧ j = 3 * T 7 3 + 2) → w3.1 i j = w2.1 i j := fun i j q q2 => (g3 i j q2).trans (f3.2 i j (aRx_n (by omega)))
  intro w9 e9
  rw [s_Vn]
  have hcn : w3.1 79 27 = nI (T 7 3) := ((k3 _ _ (by omega) (by omega)).trans ((k2 _ _ (by omega) (by omega)).trans ((k1 _ _ (by omega) (by omega)).trans hcw)))
  rw [hcn, nI_1] at e9
  have g9 : ∀ i j, ¬ (i = 79 ∧ j = 27) → w9.1 i j = w3.1 i j := fun i j q => by rw [e9, rd_ne q]
  have z9 : tRf N Y _ _ w9 := x3.g (fun i j q => g9 i j (by omega))
  have q9 : fR _ w9 := y3.mv (g9 _ _ (by omega)) (g9 _ _ (by omega))
  simp only [orf_a, orf_none] at z9 q9
  have z9 : tRf N Y (wdF N Y T a) (wdA N Y T a) w9 := z9
  have q9 : fR (wdF N Y T a) w9 := q9
  refine h w9 ((((((((fr.refl aRc w).trans (aRc_x f1)).trans (show fr aRc u1 w1 by rw [e1]; exact fr.wr (aRc_w (by omega)))).trans (aRc_x f2)).trans (show fr aRc u2 w2 by rw [e2]; exact fr.wr (aRc_w (by omega)))).trans (aRc_x f3)).trans (show fr aRc u3 w3 by rw [e3]; exact fr.wr (aRc_w (by omega)))).trans (by rw [e9]; exact fr.wr (aRc_w (by omega)))) q9 (fun hz => ⟨?_, ?_⟩)
  · rw [hz] at z9
    exact z9.no
  have hz0 : (wdF N Y T a) = none := hz
  unfold wdF at hz0
  simp only [orf_nn] at hz0
  obtain ⟨o1, o2, o3⟩ := hz0
  have vv1 : v1 = nI (wdR1 N Y T a).2.1 := hv1 o1
  have vv2 : v2 = nI (wdR2 N Y T a).2.1 := hv2 (by simp only [orf_a, orf_none]; simp only [orf_nn]; exact ⟨o1, o2⟩)
  have vv3 : v3 = nI (wdR3 N Y T a).2.1 := hv3 (by simp only [orf_a, orf_none]; simp only [orf_nn]; exact ⟨o1, o2, o3⟩)
  obtain ⟨⟨a1, a2, a3, a4, a5⟩, b1, b2, b3, b4, b5, b6, b7⟩ := hD
  refine ⟨⟨((((g9 _ _ (by omega)).trans (k3 _ _ (by omega) (by omega))).trans (k2 _ _ (by omega) (by omega))).trans (k1 _ _ (by omega) (by omega))).trans a1, ((((g9 _ _ (by omega)).trans (k3 _ _ (by omega) (by omega))).trans (k2 _ _ (by omega) (by omega))).trans (k1 _ _ (by omega) (by omega))).trans a2, ((((g9 _ _ (by omega)).trans (k3 _ _ (by omega) (by omega))).trans (k2 _ _ (by omega) (by omega))).trans (k1 _ _ (by omega) (by omega))).trans a3, ?_, ((((g9 _ _ (by omega)).trans (k3 _ _ (by omega) (by omega))).trans (k2 _ _ (by omega) (by omega))).trans (k1 _ _ (by omega) (by omega))).trans a5⟩, b1.eq (fun j => ((((g9 _ _ (by omega)).trans (k3 _ _ (by omega) (by omega))).trans (k2 _ _ (by omega) (by omega))).trans (k1 _ _ (by omega) (by omega)))), b2.eq (fun j => ((((g9 _ _ (by omega)).trans (k3 _ _ (by omega) (by omega))).trans (k2 _ _ (by omega) (by omega))).trans (k1 _ _ (by omega) (by omega)))), b3.eq (fun j => ((((g9 _ _ (by omega)).trans (k3 _ _ (by omega) (by omega))).trans (k2 _ _ (by omega) (by omega))).trans (k1 _ _ (by omega) (by omega)))), b4.eq (fun j => ((((g9 _ _ (by omega)).trans (k3 _ _ (by omega) (by omega))).trans (k2 _ _ (by omega) (by omega))).trans (k1 _ _ (by omega) (by omega)))), b5.eq (fun j => ((((g9 _ _ (by omega)).trans (k3 _ _ (by omega) (by omega))).trans (k2 _ _ (by omega) (by omega))).trans (k1 _ _ (by omega) (by omega)))), ?_, b7.eq (fun j => ((((g9 _ _ (by omega)).trans (k3 _ _ (by omega) (by omega))).trans (k2 _ _ (by omega) (by omega))).trans (k1 _ _ (by omega) (by omega))))⟩
  · show w9.1 79 27 = nI (T 7 3 + 1)
    rw [e9, rd_s]
  · show holds 87 (3 * (T 7 3 + 1)) (up (up (up (T 5) (3 * T 7 3) (wdR1 N Y T a).2.1) (3 * T 7 3 + 1) (wdR2 N Y T a).2.1) (3 * T 7 3 + 2) (wdR3 N Y T a).2.1) w9
    refine holds_m b6 (fun j hj => ((((g9 _ _ (by omega)).trans (k3 _ _ (by omega) (by omega))).trans (k2 _ _ (by omega) (by omega))).trans (k1 _ _ (by omega) (by omega)))) (fun j hj => ?_) (fun j h1 h2 => ?_)
    · rw [up_n (by omega), up_n (by omega), up_n (by omega)]
    · rcases (show j = 3 * T 7 3 ∨ j = 3 * T 7 3 + 1 ∨ j = 3 * T 7 3 + 2 by omega) with q | q | q
      · rw [q, up_n (by omega), up_n (by omega), up_s, g9 _ _ (by omega), k3 _ _ (by omega) (by omega), k2 _ _ (by omega) (by omega), e1, rd_s, vv1]
      · rw [q, up_n (by omega), up_s, g9 _ _ (by omega), k3 _ _ (by omega) (by omega), e2, rd_s, vv2]
      · rw [q, up_s, g9 _ _ (by omega), e3, rd_s, vv3]
theorem cls_29 : sLn 29 = sLn 1 ∧ ∀ i, i < sLn 29 → sCh 29 i = sCh 1 i := by decide +kernel
theorem cls_30 : sLn 30 = sLn 6 ∧ ∀ i, i < sLn 30 → sCh 30 i = sCh 6 i := by decide +kernel
theorem cls_31 : sLn 31 = sLn 7 ∧ ∀ i, i < sLn 31 → sCh 31 i = sCh 7 i := by decide +kernel
theorem cls_32 : sLn 32 = sLn 8 ∧ ∀ i, i < sLn 32 → sCh 32 i = sCh 8 i := by decide +kernel
theorem cls_33 : sLn 33 = sLn 10 ∧ ∀ i, i < sLn 33 → sCh 33 i = sCh 10 i := by decide +kernel
theorem cls_34 : sLn 34 = sLn 11 ∧ ∀ i, i < sLn 34 → sCh 34 i = sCh 11 i := by decide +kernel
theorem S_rddb {d N s a : Nat} {Y : Nat → Nat} {T : Tb} {X : s_Xo} {w : q_Sm} {Q : q_Sm → Prop} (ht : tb T) (hs : s ≤ N)  (hw : wA N Y s 1) (hr : T 7 1 < 10) (hT : tR N Y a w) (hf : fR none w) (hD : rD T w)
    (h : ∀ u, fr aRc w u → fR (dbF N Y T a) u → (dbF N Y T a = none → tR N Y (dbA N Y T a) u ∧ rD (dbT N Y T a) u) → Q u) : s_EvV (d + 9) 0 mX12_readRow w [.ref 79, .int (nI (wv6 N Y s))] Q X := by
  have h6 := tb_nc ht
  have hcw : w.1 79 25 = nI (T 7 1) := hD.1.2.1
  have hcc : w.1 79 24 = nI (T 7 0) := hD.1.1
  apply eX12_readRow
  unfold vX12_readRow_0
  refine R_isW (d := d + 3) (Y := Y) (c := 1) hs (by decide) (by decide) cls_29 (fun x hx => ?_)
  rw [hx]
  refine ⟨fun z => absurd hw z, fun _ => ?_⟩
  rw [hcw, hcc]
  refine S_numH (d := d + 6) (lo := 0) (H := T 7 0) (by decide) (by omega) (bd_c (by omega)) (tRf.of hT) hf (fun u1 v1 f1 t1 ff1 hv1 => ?_)
  have ei1 : nI 5 * nI (T 7 1) = nI (5 * T 7 1) := by try simp (disch := omega) only [s_Ii, s_Jj, s_Vn, forall_eq, L_m1, nI_add, nI_clamp, nI_leI, nI_ltI, nI_eq, vp_nI, pk_mul, pk_sub, Nat.zero_add, Nat.add_zero, wr_2, Classical.not_not, true_and, and_true, ne_eq, false_implies, true_implies, implies_true, not_true_eq_false, not_false_eq_true, ia_0, ia_1, za_1, ia_2, za_2, ia_3, za_3, ia_4, za_4, ia_5, za_5, ia_6, za_6, ia_7, za_7, ia_8, za_8, ia_9, za_9, ia_10, za_10, ia_11, za_11, ia_12, za_12, ia_13, za_13, ia_14, za_14, ia_15, za_15, ib_0, ib_1, zb_1, ic_0, ic_1, ic_2, ic_3, zc_1, zc_2, zc_3, id_0, id_1, id_2, id_3, zd_1, zd_2, zd_3, L_0, L_1, L_2, L_3, L_4, L_5, L_6, L_7, L_8, L_9, L_10, L_11, L_12, L_13, L_14, L_15, L_16, L_17, L_18, L_19, L_20, L_24, L_27, L_30, L_31, L_32, L_35, L_36, L_40, L_41, L_43, L_44, L_45, L_46, L_47, L_48, L_50, L_54, L_57, L_58, L_59, L_60, L_61, L_62, L_63, L_91, L_93, L_96, L_97, L_98, L_99, L_100, L_103, L_122, L_145, L_150, L_200, L_255, L_600, L_999, L_1000, L_2000, L_9999, L_10000, L_32767, L_12345, oI_s, oI_n, L_mn, if_true, if_false, ite_true, ite_false, Bool.false_eq_true, Nat.reduceEqDiff, Nat.reduceLeDiff, Nat.reduceLT, Nat.reduceAdd, Nat.reduceSub, Nat.reduceMul, Nat.le_refl, Nat.lt_irrefl, Nat.not_lt_zero]
  refine ⟨?_, ?_⟩
  · show vp_in (nI 5 * nI (T 7 1)) 50
    rw [ei1]
    exact (vp_nI (by omega)).mpr (by omega)
  intro w1 e1
  have e1 : w1 = q_wI u1 83 (5 * T 7 1) v1 := by
    have e0 : w1 = q_wI u1 83 (Int32.toNatClampNeg (nI 5 * nI (T 7 1))) v1 := e1
    rw [ei1, nI_clamp (by omega)] at e0
    exact e0
  have g1 : ∀ i j, ¬ (i = 83 ∧ j = 5 * T 7 1) → w1.1 i j = u1.1 i j := fun i j q => by rw [e1, rd_ne q]
  have x1 : tRf N Y _ _ w1 := t1.g (fun i j q => g1 i j (by omega))
  have y1 : fR _ w1 := ff1.mv (g1 _ _ (by omega)) (g1 _ _ (by omega))
  have k1 : ∀ i j, (i = 79 ∧ 24 ≤ j ∧ j ≤ 28) ∨ (82 ≤ i ∧ i ≤ 88) → ¬ (i = 83 ∧ j = 5 * T 7 1) → w1.1 i j = w.1 i j := fun i j q q2 => (g1 i j q2).trans (f1.2 i j (aRx_n (by omega)))
  refine S_colour (d := d + 1) x1 y1 (fun u2 v2 f2 t2 ff2 hv2 => ?_)
  have ei2 : nI 5 * nI (T 7 1) + nI 1 = nI (5 * T 7 1 + 1) := by try simp (disch := omega) only [s_Ii, s_Jj, s_Vn, forall_eq, L_m1, nI_add, nI_clamp, nI_leI, nI_ltI, nI_eq, vp_nI, pk_mul, pk_sub, Nat.zero_add, Nat.add_zero, wr_2, Classical.not_not, true_and, and_true, ne_eq, false_implies, true_implies, implies_true, not_true_eq_false, not_false_eq_true, ia_0, ia_1, za_1, ia_2, za_2, ia_3, za_3, ia_4, za_4, ia_5, za_5, ia_6, za_6, ia_7, za_7, ia_8, za_8, ia_9, za_9, ia_10, za_10, ia_11, za_11, ia_12, za_12, ia_13, za_13, ia_14, za_14, ia_15, za_15, ib_0, ib_1, zb_1, ic_0, ic_1, ic_2, ic_3, zc_1, zc_2, zc_3, id_0, id_1, id_2, id_3, zd_1, zd_2, zd_3, L_0, L_1, L_2, L_3, L_4, L_5, L_6, L_7, L_8, L_9, L_10, L_11, L_12, L_13, L_14, L_15, L_16, L_17, L_18, L_19, L_20, L_24, L_27, L_30, L_31, L_32, L_35, L_36, L_40, L_41, L_43, L_44, L_45, L_46, L_47, L_48, L_50, L_54, L_57, L_58, L_59, L_60, L_61, L_62, L_63, L_91, L_93, L_96, L_97, L_98, L_99, L_100, L_103, L_122, L_145, L_150, L_200, L_255, L_600, L_999, L_1000, L_2000, L_9999, L_10000, L_32767, L_12345, oI_s, oI_n, L_mn, if_true, if_false, ite_true, ite_false, Bool.false_eq_true, Nat.reduceEqDiff, Nat.reduceLeDiff, Nat.reduceLT, Nat.reduceAdd, Nat.reduceSub, Nat.reduceMul, Nat.le_refl, Nat.lt_irrefl, Nat.not_lt_zero]
  refine ⟨?_, ?_⟩
  · show vp_in (nI 5 * nI (T 7 1) + nI 1) 50
    rw [ei2]
    exact (vp_nI (by omega)).mpr (by omega)
  intro w2 e2
  have e2 : w2 = q_wI u2 83 (5 * T 7 1 + 1) v2 := by
    have e0 : w2 = q_wI u2 83 (Int32.toNatClampNeg (nI 5 * nI (T 7 1) + nI 1)) v2 := e2
    rw [ei2, nI_clamp (by omega)] at e0
    exact e0
  have g2 : ∀ i j, ¬ (i = 83 ∧ j = 5 * T 7 1 + 1) → w2.1 i j = u2.1 i j := fun i j q => by rw [e2, rd_ne q]
  have x2 : tRf N Y _ _ w2 := t2.g (fun i j q => g2 i j (by omega))
  have y2 : fR _ w2 := ff2.mv (g2 _ _ (by omega)) (g2 _ _ (by omega))
  have k2 : ∀ i j, (i = 79 ∧ 24 ≤ j ∧ j ≤ 28) ∨ (82 ≤ i ∧ i ≤ 88) → ¬ (i = 83 ∧ j = 5 * T 7 1 + 1) → w2.1 i j = w1.1 i j := fun i j q q2 => (g2 i j q2).trans (f2.2 i j (aRx_n (by omega)))
  refine S_number (d := d + 6) (lo := 1) (hi := 99) (by decide) (by decide) x2 y2 (fun u3 v3 f3 t3 ff3 hv3 => ?_)
  have ei3 : nI 5 * nI (T 7 1) + nI 2 = nI (5 * T 7 1 + 2) := by try simp (disch := omega) only [s_Ii, s_Jj, s_Vn, forall_eq, L_m1, nI_add, nI_clamp, nI_leI, nI_ltI, nI_eq, vp_nI, pk_mul, pk_sub, Nat.zero_add, Nat.add_zero, wr_2, Classical.not_not, true_and, and_true, ne_eq, false_implies, true_implies, implies_true, not_true_eq_false, not_false_eq_true, ia_0, ia_1, za_1, ia_2, za_2, ia_3, za_3, ia_4, za_4, ia_5, za_5, ia_6, za_6, ia_7, za_7, ia_8, za_8, ia_9, za_9, ia_10, za_10, ia_11, za_11, ia_12, za_12, ia_13, za_13, ia_14, za_14, ia_15, za_15, ib_0, ib_1, zb_1, ic_0, ic_1, ic_2, ic_3, zc_1, zc_2, zc_3, id_0, id_1, id_2, id_3, zd_1, zd_2, zd_3, L_0, L_1, L_2, L_3, L_4, L_5, L_6, L_7, L_8, L_9, L_10, L_11, L_12, L_13, L_14, L_15, L_16, L_17, L_18, L_19, L_20, L_24, L_27, L_30, L_31, L_32, L_35, L_36, L_40, L_41, L_43, L_44, L_45, L_46, L_47, L_48, L_50, L_54, L_57, L_58, L_59, L_60, L_61, L_62, L_63, L_91, L_93, L_96, L_97, L_98, L_99, L_100, L_103, L_122, L_145, L_150, L_200, L_255, L_600, L_999, L_1000, L_2000, L_9999, L_10000, L_32767, L_12345, oI_s, oI_n, L_mn, if_true, if_false, ite_true, ite_false, Bool.false_eq_true, Nat.reduceEqDiff, Nat.reduceLeDiff, Nat.reduceLT, Nat.reduceAdd, Nat.reduceSub, Nat.reduceMul, Nat.le_refl, Nat.lt_irrefl, Nat.not_lt_zero]
  refine ⟨?_, ?_⟩
  · show vp_in (nI 5 * nI (T 7 1) + nI 2) 50
    rw [ei3]
    exact (vp_nI (by omega)).mpr (by omega)
  intro w3 e3
  have e3 : w3 = q_wI u3 83 (5 * T 7 1 + 2) v3 := by
    have e0 : w3 = q_wI u3 83 (Int32.toNatClampNeg (nI 5 * nI (T 7 1) + nI 2)) v3 := e3
    rw [ei3, nI_clamp (by omega)] at e0
    exact e0
  have g3 : ∀ i j, ¬ (i = 83 ∧ j = 5 * T 7 1 + 2) → w3.1 i j = u3.1 i j := fun i j q => by rw [e3, rd_ne q]
  have x3 : tRf N Y _ _ w3 := t3.g (fun i j q => g3 i j (by omega))
  have y3 : fR _ w3 := ff3.mv (g3 _ _ (by omega)) (g3 _ _ (by omega))
  have k3 : ∀ i j, (i = 79 ∧ 24 ≤ j ∧ j ≤ 28) ∨ (82 ≤ i ∧ i ≤ 88) → ¬ (i = 83 ∧ j = 5 * T 7 1 + 2) → w3.1 i j = w2.1 i j := fun i j q q2 => (g3 i j q2).trans (f3.2 i j (aRx_n (by omega)))
  refine S_number (d := d + 6) (lo := 0) (hi := 16) (by decide) (by decide) x3 y3 (fun u4 v4 f4 t4 ff4 hv4 => ?_)
  have ei4 : nI 5 * nI (T 7 1) + nI 3 = nI (5 * T 7 1 + 3) := by try simp (disch := omega) only [s_Ii, s_Jj, s_Vn, forall_eq, L_m1, nI_add, nI_clamp, nI_leI, nI_ltI, nI_eq, vp_nI, pk_mul, pk_sub, Nat.zero_add, Nat.add_zero, wr_2, Classical.not_not, true_and, and_true, ne_eq, false_implies, true_implies, implies_true, not_true_eq_false, not_false_eq_true, ia_0, ia_1, za_1, ia_2, za_2, ia_3, za_3, ia_4, za_4, ia_5, za_5, ia_6, za_6, ia_7, za_7, ia_8, za_8, ia_9, za_9, ia_10, za_10, ia_11, za_11, ia_12, za_12, ia_13, za_13, ia_14, za_14, ia_15, za_15, ib_0, ib_1, zb_1, ic_0, ic_1, ic_2, ic_3, zc_1, zc_2, zc_3, id_0, id_1, id_2, id_3, zd_1, zd_2, zd_3, L_0, L_1, L_2, L_3, L_4, L_5, L_6, L_7, L_8, L_9, L_10, L_11, L_12, L_13, L_14, L_15, L_16, L_17, L_18, L_19, L_20, L_24, L_27, L_30, L_31, L_32, L_35, L_36, L_40, L_41, L_43, L_44, L_45, L_46, L_47, L_48, L_50, L_54, L_57, L_58, L_59, L_60, L_61, L_62, L_63, L_91, L_93, L_96, L_97, L_98, L_99, L_100, L_103, L_122, L_145, L_150, L_200, L_255, L_600, L_999, L_1000, L_2000, L_9999, L_10000, L_32767, L_12345, oI_s, oI_n, L_mn, if_true, if_false, ite_true, ite_false, Bool.false_eq_true, Nat.reduceEqDiff, Nat.reduceLeDiff, Nat.reduceLT, Nat.reduceAdd, Nat.reduceSub, Nat.reduceMul, Nat.le_refl, Nat.lt_irrefl, Nat.not_lt_zero]
  refine ⟨?_, ?_⟩
  · show vp_in (nI 5 * nI (T 7 1) + nI 3) 50
    rw [ei4]
    exact (vp_nI (by omega)).mpr (by omega)
  intro w4 e4
  have e4 : w4 = q_wI u4 83 (5 * T 7 1 + 3) v4 := by
    have e0 : w4 = q_wI u4 83 (Int32.toNatClampNeg (nI 5 * nI (T 7 1) + nI 3)) v4 := e4
    rw [ei4, nI_clamp (by omega)] at e0
    exact e0
  have g4 : ∀ i j, ¬ (i = 83 ∧ j = 5 * T 7 1 + 3) → w4.1 i j = u4.1 i j := fun i j q => by rw [e4, rd_ne q]
  have x4 : tRf N Y _ _ w4 := t4.g (fun i j q => g4 i j (by omega))
  have y4 : fR _ w4 := ff4.mv (g4 _ _ (by omega)) (g4 _ _ (by omega))
  have k4 : ∀ i j, (i = 79 ∧ 24 ≤ j ∧ j ≤ 28) ∨ (82 ≤ i ∧ i ≤ 88) → ¬ (i = 83 ∧ j = 5 * T 7 1 + 3) → w4.1 i j = w3.1 i j := fun i j q q2 => (g4 i j q2).trans (f4.2 i j (aRx_n (by omega)))
  refine S_number (d := d + 6) (lo := 0) (hi := 60) (by decide) (by decide) x4 y4 (fun u5 v5 f5 t5 ff5 hv5 => ?_)
  have ei5 : nI 5 * nI (T 7 1) + nI 4 = nI (5 * T 7 1 + 4) := by try simp (disch := omega) only [s_Ii, s_Jj, s_Vn, forall_eq, L_m1, nI_add, nI_clamp, nI_leI, nI_ltI, nI_eq, vp_nI, pk_mul, pk_sub, Nat.zero_add, Nat.add_zero, wr_2, Classical.not_not, true_and, and_true, ne_eq, false_implies, true_implies, implies_true, not_true_eq_false, not_false_eq_true, ia_0, ia_1, za_1, ia_2, za_2, ia_3, za_3, ia_4, za_4, ia_5, za_5, ia_6, za_6, ia_7, za_7, ia_8, za_8, ia_9, za_9, ia_10, za_10, ia_11, za_11, ia_12, za_12, ia_13, za_13, ia_14, za_14, ia_15, za_15, ib_0, ib_1, zb_1, ic_0, ic_1, ic_2, ic_3, zc_1, zc_2, zc_3, id_0, id_1, id_2, id_3, zd_1, zd_2, zd_3, L_0, L_1, L_2, L_3, L_4, L_5, L_6, L_7, L_8, L_9, L_10, L_11, L_12, L_13, L_14, L_15, L_16, L_17, L_18, L_19, L_20, L_24, L_27, L_30, L_31, L_32, L_35, L_36, L_40, L_41, L_43, L_44, L_45, L_46, L_47, L_48, L_50, L_54, L_57, L_58, L_59, L_60, L_61, L_62, L_63, L_91, L_93, L_96, L_97, L_98, L_99, L_100, L_103, L_122, L_145, L_150, L_200, L_255, L_600, L_999, L_1000, L_2000, L_9999, L_10000, L_32767, L_12345, oI_s, oI_n, L_mn, if_true, if_false, ite_true, ite_false, Bool.false_eq_true, Nat.reduceEqDiff, Nat.reduceLeDiff, Nat.reduceLT, Nat.reduceAdd, Nat.reduceSub, Nat.reduceMul, Nat.le_refl, Nat.lt_irrefl, Nat.not_lt_zero]
  refine ⟨?_, ?_⟩
  · show vp_in (nI 5 * nI (T 7 1) + nI 4) 50
    rw [ei5]
    exact (vp_nI (by omega)).mpr (by omega)
  intro w5 e5
  have e5 : w5 = q_wI u5 83 (5 * T 7 1 + 4) v5 := by
    have e0 : w5 = q_wI u5 83 (Int32.toNatClampNeg (nI 5 * nI (T 7 1) + nI 4)) v5 := e5
    rw [ei5, nI_clamp (by omega)] at e0
    exact e0
  have g5 : ∀ i j, ¬ (i = 83 ∧ j = 5 * T 7 1 + 4) → w5.1 i j = u5.1 i j := fun i j q => by rw [e5, rd_ne q]
  have x5 : tRf N Y _ _ w5 := t5.g (fun i j q => g5 i j (by omega))
  have y5 : fR _ w5 := ff5.mv (g5 _ _ (by omega)) (g5 _ _ (by omega))
  have k5 : ∀ i j, (i = 79 ∧ 24 ≤ j ∧ j ≤ 28) ∨ (82 ≤ i ∧ i ≤ 88) → ¬ (i = 83 ∧ j = 5 * T 7 1 + 4) → w5.1 i j = w4.1 i j := fun i j q q2 => (g5 i j q2).trans (f5.2 i j (aRx_n (by omega)))
  intro w9 e9
  rw [s_Vn]
  have hcn : w5.1 79 25 = nI (T 7 1) := ((k5 _ _ (by omega) (by omega)).trans ((k4 _ _ (by omega) (by omega)).trans ((k3 _ _ (by omega) (by omega)).trans ((k2 _ _ (by omega) (by omega)).trans ((k1 _ _ (by omega) (by omega)).trans hcw)))))
  rw [hcn, nI_1] at e9
  have g9 : ∀ i j, ¬ (i = 79 ∧ j = 25) → w9.1 i j = w5.1 i j := fun i j q => by rw [e9, rd_ne q]
  have z9 : tRf N Y _ _ w9 := x5.g (fun i j q => g9 i j (by omega))
  have q9 : fR _ w9 := y5.mv (g9 _ _ (by omega)) (g9 _ _ (by omega))
  simp only [orf_a, orf_none] at z9 q9
  have z9 : tRf N Y (dbF N Y T a) (dbA N Y T a) w9 := z9
  have q9 : fR (dbF N Y T a) w9 := q9
  refine h w9 ((((((((((((fr.refl aRc w).trans (aRc_x f1)).trans (show fr aRc u1 w1 by rw [e1]; exact fr.wr (aRc_w (by omega)))).trans (aRc_x f2)).trans (show fr aRc u2 w2 by rw [e2]; exact fr.wr (aRc_w (by omega)))).trans (aRc_x f3)).trans (show fr aRc u3 w3 by rw [e3]; exact fr.wr (aRc_w (by omega)))).trans (aRc_x f4)).trans (show fr aRc u4 w4 by rw [e4]; exact fr.wr (aRc_w (by omega)))).trans (aRc_x f5)).trans (show fr aRc u5 w5 by rw [e5]; exact fr.wr (aRc_w (by omega)))).trans (by rw [e9]; exact fr.wr (aRc_w (by omega)))) q9 (fun hz => ⟨?_, ?_⟩)
  · rw [hz] at z9
    exact z9.no
  have hz0 : (dbF N Y T a) = none := hz
  unfold dbF at hz0
  simp only [orf_nn] at hz0
  obtain ⟨o1, o2, o3, o4, o5⟩ := hz0
  have vv1 : v1 = nI (dbR1 N Y T a).2.1 := hv1 o1
  have vv2 : v2 = nI (dbR2 N Y T a).2.1 := hv2 (by simp only [orf_a, orf_none]; simp only [orf_nn]; exact ⟨o1, o2⟩)
  have vv3 : v3 = nI (dbR3 N Y T a).2.1 := hv3 (by simp only [orf_a, orf_none]; simp only [orf_nn]; exact ⟨o1, o2, o3⟩)
  have vv4 : v4 = nI (dbR4 N Y T a).2.1 := hv4 (by simp only [orf_a, orf_none]; simp only [orf_nn]; exact ⟨o1, o2, o3, o4⟩)
  have vv5 : v5 = nI (dbR5 N Y T a).2.1 := hv5 (by simp only [orf_a, orf_none]; simp only [orf_nn]; exact ⟨o1, o2, o3, o4, o5⟩)
  obtain ⟨⟨a1, a2, a3, a4, a5⟩, b1, b2, b3, b4, b5, b6, b7⟩ := hD
  refine ⟨⟨((((((g9 _ _ (by omega)).trans (k5 _ _ (by omega) (by omega))).trans (k4 _ _ (by omega) (by omega))).trans (k3 _ _ (by omega) (by omega))).trans (k2 _ _ (by omega) (by omega))).trans (k1 _ _ (by omega) (by omega))).trans a1, ?_, ((((((g9 _ _ (by omega)).trans (k5 _ _ (by omega) (by omega))).trans (k4 _ _ (by omega) (by omega))).trans (k3 _ _ (by omega) (by omega))).trans (k2 _ _ (by omega) (by omega))).trans (k1 _ _ (by omega) (by omega))).trans a3, ((((((g9 _ _ (by omega)).trans (k5 _ _ (by omega) (by omega))).trans (k4 _ _ (by omega) (by omega))).trans (k3 _ _ (by omega) (by omega))).trans (k2 _ _ (by omega) (by omega))).trans (k1 _ _ (by omega) (by omega))).trans a4, ((((((g9 _ _ (by omega)).trans (k5 _ _ (by omega) (by omega))).trans (k4 _ _ (by omega) (by omega))).trans (k3 _ _ (by omega) (by omega))).trans (k2 _ _ (by omega) (by omega))).trans (k1 _ _ (by omega) (by omega))).trans a5⟩, b1.eq (fun j => ((((((g9 _ _ (by omega)).trans (k5 _ _ (by omega) (by omega))).trans (k4 _ _ (by omega) (by omega))).trans (k3 _ _ (by omega) (by omega))).trans (k2 _ _ (by omega) (by omega))).trans (k1 _ _ (by omega) (by omega)))), ?_, b3.eq (fun j => ((((((g9 _ _ (by omega)).trans (k5 _ _ (by omega) (by omega))).trans (k4 _ _ (by omega) (by omega))).trans (k3 _ _ (by omega) (by omega))).trans (k2 _ _ (by omega) (by omega))).trans (k1 _ _ (by omega) (by omega)))), b4.eq (fun j => ((((((g9 _ _ (by omega)).trans (k5 _ _ (by omega) (by omega))).trans (k4 _ _ (by omega) (by omega))).trans (k3 _ _ (by omega) (by omega))).trans (k2 _ _ (by omega) (by omega))).trans (k1 _ _ (by omega) (by omega)))), b5.eq (fun j => ((((((g9 _ _ (by omega)).trans (k5 _ _ (by omega) (by omega))).trans (k4 _ _ (by omega) (by omega))).trans (k3 _ _ (by omega) (by omega))).trans (k2 _ _ (by omega) (by omega))).trans (k1 _ _ (by omega) (by omega)))), b6.eq (fun j => ((((((g9 _ _ (by omega)).trans (k5 _ _ (by omega) (by omega))).trans (k4 _ _ (by omega) (by omega))).trans (k3 _ _ (by omega) (by omega))).trans (k2 _ _ (by omega) (by omega))).trans (k1 _ _ (by omega) (by omega)))), b7.eq (fun j => ((((((g9 _ _ (by omega)).trans (k5 _ _ (by omega) (by omega))).trans (k4 _ _ (by omega) (by omega))).trans (k3 _ _ (by omega) (by omega))).trans (k2 _ _ (by omega) (by omega))).trans (k1 _ _ (by omega) (by omega))))⟩
  · show w9.1 79 25 = nI (T 7 1 + 1)
    rw [e9, rd_s]
  · show holds 83 (5 * (T 7 1 + 1)) (up (up (up (up (up (T 1) (5 * T 7 1) (dbR1 N Y T a).2.1) (5 * T 7 1 + 1) (dbR2 N Y T a).2.1) (5 * T 7 1 + 2) (dbR3 N Y T a).2.1) (5 * T 7 1 + 3) (dbR4 N Y T a).2.1) (5 * T 7 1 + 4) (dbR5 N Y T a).2.1) w9
    refine holds_m b2 (fun j hj => ((((((g9 _ _ (by omega)).trans (k5 _ _ (by omega) (by omega))).trans (k4 _ _ (by omega) (by omega))).trans (k3 _ _ (by omega) (by omega))).trans (k2 _ _ (by omega) (by omega))).trans (k1 _ _ (by omega) (by omega)))) (fun j hj => ?_) (fun j h1 h2 => ?_)
    · rw [up_n (by omega), up_n (by omega), up_n (by omega), up_n (by omega), up_n (by omega)]
    · rcases (show j = 5 * T 7 1 ∨ j = 5 * T 7 1 + 1 ∨ j = 5 * T 7 1 + 2 ∨ j = 5 * T 7 1 + 3 ∨ j = 5 * T 7 1 + 4 by omega) with q | q | q | q | q
      · rw [q, up_n (by omega), up_n (by omega), up_n (by omega), up_n (by omega), up_s, g9 _ _ (by omega), k5 _ _ (by omega) (by omega), k4 _ _ (by omega) (by omega), k3 _ _ (by omega) (by omega), k2 _ _ (by omega) (by omega), e1, rd_s, vv1]
      · rw [q, up_n (by omega), up_n (by omega), up_n (by omega), up_s, g9 _ _ (by omega), k5 _ _ (by omega) (by omega), k4 _ _ (by omega) (by omega), k3 _ _ (by omega) (by omega), e2, rd_s, vv2]
      · rw [q, up_n (by omega), up_n (by omega), up_s, g9 _ _ (by omega), k5 _ _ (by omega) (by omega), k4 _ _ (by omega) (by omega), e3, rd_s, vv3]
      · rw [q, up_n (by omega), up_s, g9 _ _ (by omega), k5 _ _ (by omega) (by omega), e4, rd_s, vv4]
      · rw [q, up_s, g9 _ _ (by omega), e5, rd_s, vv5]
theorem S_rdrg {d N s a : Nat} {Y : Nat → Nat} {T : Tb} {X : s_Xo} {w : q_Sm} {Q : q_Sm → Prop} (ht : tb T) (hs : s ≤ N) (hn1 : ¬ wA N Y s 1) (hn6 : ¬ wA N Y s 6) (hw : wA N Y s 7) (hT : tR N Y a w) (hf : fR none w) (hD : rD T w)
    (h : ∀ u, fr aRc w u → fR (rgF N Y T a) u → (rgF N Y T a = none → tR N Y (rgA N Y T a) u ∧ rD (rgT N Y T a) u) → Q u) : s_EvV (d + 9) 0 mX12_readRow w [.ref 79, .int (nI (wv6 N Y s))] Q X := by
  have hb : (rgR1 N Y T a).2.1 < 20 := Nat.lt_succ_of_le (num_v (show 0 ≤ 19 by omega)).2
  apply eX12_readRow
  unfold vX12_readRow_0
  refine R_isW (d := d + 3) (Y := Y) (c := 1) hs (by decide) (by decide) cls_29 (fun x hx => ?_)
  rw [hx]
  refine ⟨fun _ => ?_, fun z => absurd (Classical.not_not.mp z) hn1⟩
  refine R_isW (d := d + 3) (Y := Y) (c := 6) hs (by decide) (by decide) cls_30 (fun x hx => ?_)
  rw [hx]
  refine ⟨fun _ => ?_, fun z => absurd (Classical.not_not.mp z) hn6⟩
  refine R_isW (d := d + 3) (Y := Y) (c := 7) hs (by decide) (by decide) cls_31 (fun x hx => ?_)
  rw [hx]
  refine ⟨fun z => absurd hw z, fun _ => ?_⟩
  refine S_number (d := d + 6) (lo := 0) (hi := 19) (by decide) (by decide) (tRf.of hT) hf (fun u1 v1 f1 t1 ff1 hv1 => ?_)
  refine S_number (d := d + 6) (lo := 0) (hi := 20) (by decide) (by decide) t1 ff1 (fun u2 v2 f2 t2 ff2 hv2 => ?_)
  simp only [orf_a, orf_none] at t2 ff2 hv2
  simp only [orf_none] at hv1
  have t2 : tRf N Y (rgF N Y T a) (rgA N Y T a) u2 := t2
  have ff2 : fR (rgF N Y T a) u2 := ff2
  have fu := f1.trans f2
  refine R_fine ff2 (fun z => ?_) (fun z => ?_)
  · refine ⟨fun z => absurd z (by decide), fun _ => ?_⟩
    have z' := z
    unfold rgF at z'
    obtain ⟨o1, o2⟩ := orf_nn.mp z'
    have vv1 : v1 = nI (rgR1 N Y T a).2.1 := hv1 o1
    have vv2 : v2 = nI (rgR2 N Y T a).2.1 := hv2 z'
    subst vv1 vv2
    rw [nI_clamp (by omega)]
    refine ⟨(vp_nI (by omega)).mpr hb, ?_⟩
    intro w9 e9
    rw [s_Vn]
    have g : ∀ i j, ¬ (i = 85 ∧ j = (rgR1 N Y T a).2.1) → w9.1 i j = u2.1 i j := fun i j q => by rw [e9, rd_ne q]
    have du := hD.x fu
    rw [z] at t2
    refine h w9 ((aRc_x fu).trans (by rw [e9]; exact fr.wr (aRc_w (by omega)))) (ff2.mv (g _ _ (by omega)) (g _ _ (by omega))) (fun _ => ⟨t2.no.g (fun i j q => g i j (by omega)), ?_⟩)
    obtain ⟨⟨a1, a2, a3, a4, a5⟩, b1, b2, b3, b4, b5, b6, b7⟩ := du
    exact ⟨⟨(g _ _ (by omega)).trans a1, (g _ _ (by omega)).trans a2, (g _ _ (by omega)).trans a3, (g _ _ (by omega)).trans a4, (g _ _ (by omega)).trans a5⟩, b1.eq (fun j => g _ _ (by omega)), b2.eq (fun j => g _ _ (by omega)), b3.eq (fun j => g _ _ (by omega)), holds_u b4 (fun j hj => g _ _ (by omega)) (by rw [e9, rd_s]), b5.eq (fun j => g _ _ (by omega)), b6.eq (fun j => g _ _ (by omega)), b7.eq (fun j => g _ _ (by omega))⟩
  · refine ⟨fun _ => ?_, fun z => absurd rfl z⟩
    rw [s_Vn]
    exact h u2 (aRc_x fu) ff2 (fun q => absurd q z)
theorem S_rdlp {d N s a : Nat} {Y : Nat → Nat} {T : Tb} {X : s_Xo} {w : q_Sm} {Q : q_Sm → Prop} (ht : tb T) (hs : s ≤ N) (hn1 : ¬ wA N Y s 1) (hn6 : ¬ wA N Y s 6) (hn7 : ¬ wA N Y s 7) (hw : wA N Y s 8) (hT : tR N Y a w) (hf : fR none w) (hD : rD T w)
    (h : ∀ u, fr aRc w u → fR (lpF N Y T a) u → (lpF N Y T a = none → tR N Y (lpA N Y T a) u ∧ rD (lpT N Y T a) u) → Q u) : s_EvV (d + 9) 0 mX12_readRow w [.ref 79, .int (nI (wv6 N Y s))] Q X := by
  have hb : (lpR1 N Y T a).2.1 < 4 := col_v
  apply eX12_readRow
  unfold vX12_readRow_0
  refine R_isW (d := d + 3) (Y := Y) (c := 1) hs (by decide) (by decide) cls_29 (fun x hx => ?_)
  rw [hx]
  refine ⟨fun _ => ?_, fun z => absurd (Classical.not_not.mp z) hn1⟩
  refine R_isW (d := d + 3) (Y := Y) (c := 6) hs (by decide) (by decide) cls_30 (fun x hx => ?_)
  rw [hx]
  refine ⟨fun _ => ?_, fun z => absurd (Classical.not_not.mp z) hn6⟩
  refine R_isW (d := d + 3) (Y := Y) (c := 7) hs (by decide) (by decide) cls_31 (fun x hx => ?_)
  rw [hx]
  refine ⟨fun _ => ?_, fun z => absurd (Classical.not_not.mp z) hn7⟩
  refine R_isW (d := d + 3) (Y := Y) (c := 8) hs (by decide) (by decide) cls_32 (fun x hx => ?_)
  rw [hx]
  refine ⟨fun z => absurd hw z, fun _ => ?_⟩
  refine S_colour (d := d + 1) (tRf.of hT) hf (fun u1 v1 f1 t1 ff1 hv1 => ?_)
  refine S_number (d := d + 6) (lo := 0) (hi := 99) (by decide) (by decide) t1 ff1 (fun u2 v2 f2 t2 ff2 hv2 => ?_)
  simp only [orf_a, orf_none] at t2 ff2 hv2
  simp only [orf_none] at hv1
  have t2 : tRf N Y (lpF N Y T a) (lpA N Y T a) u2 := t2
  have ff2 : fR (lpF N Y T a) u2 := ff2
  have fu := f1.trans f2
  refine R_fine ff2 (fun z => ?_) (fun z => ?_)
  · refine ⟨fun z => absurd z (by decide), fun _ => ?_⟩
    have z' := z
    unfold lpF at z'
    obtain ⟨o1, o2⟩ := orf_nn.mp z'
    have vv1 : v1 = nI (lpR1 N Y T a).2.1 := hv1 o1
    have vv2 : v2 = nI (lpR2 N Y T a).2.1 := hv2 z'
    subst vv1 vv2
    rw [nI_clamp (by omega)]
    refine ⟨(vp_nI (by omega)).mpr hb, ?_⟩
    intro w9 e9
    rw [s_Vn]
    have g : ∀ i j, ¬ (i = 86 ∧ j = (lpR1 N Y T a).2.1) → w9.1 i j = u2.1 i j := fun i j q => by rw [e9, rd_ne q]
    have du := hD.x fu
    rw [z] at t2
    refine h w9 ((aRc_x fu).trans (by rw [e9]; exact fr.wr (aRc_w (by omega)))) (ff2.mv (g _ _ (by omega)) (g _ _ (by omega))) (fun _ => ⟨t2.no.g (fun i j q => g i j (by omega)), ?_⟩)
    obtain ⟨⟨a1, a2, a3, a4, a5⟩, b1, b2, b3, b4, b5, b6, b7⟩ := du
    exact ⟨⟨(g _ _ (by omega)).trans a1, (g _ _ (by omega)).trans a2, (g _ _ (by omega)).trans a3, (g _ _ (by omega)).trans a4, (g _ _ (by omega)).trans a5⟩, b1.eq (fun j => g _ _ (by omega)), b2.eq (fun j => g _ _ (by omega)), b3.eq (fun j => g _ _ (by omega)), b4.eq (fun j => g _ _ (by omega)), holds_u b5 (fun j hj => g _ _ (by omega)) (by rw [e9, rd_s]), b6.eq (fun j => g _ _ (by omega)), b7.eq (fun j => g _ _ (by omega))⟩
  · refine ⟨fun _ => ?_, fun z => absurd rfl z⟩
    rw [s_Vn]
    exact h u2 (aRc_x fu) ff2 (fun q => absurd q z)
theorem S_rdfg {d N s a : Nat} {Y : Nat → Nat} {T : Tb} {X : s_Xo} {w : q_Sm} {Q : q_Sm → Prop} (ht : tb T) (hs : s ≤ N) (hn1 : ¬ wA N Y s 1) (hn6 : ¬ wA N Y s 6) (hn7 : ¬ wA N Y s 7) (hn8 : ¬ wA N Y s 8) (hw : wA N Y s 10) (hT : tR N Y a w) (hf : fR none w) (hD : rD T w)
    (h : ∀ u, fr aRc w u → fR (fgF N Y T a) u → (fgF N Y T a = none → tR N Y (fgA N Y T a) u ∧ rD (fgT N Y T a) u) → Q u) : s_EvV (d + 9) 0 mX12_readRow w [.ref 79, .int (nI (wv6 N Y s))] Q X := by
  apply eX12_readRow
  unfold vX12_readRow_0
  refine R_isW (d := d + 3) (Y := Y) (c := 1) hs (by decide) (by decide) cls_29 (fun x hx => ?_)
  rw [hx]
  refine ⟨fun _ => ?_, fun z => absurd (Classical.not_not.mp z) hn1⟩
  refine R_isW (d := d + 3) (Y := Y) (c := 6) hs (by decide) (by decide) cls_30 (fun x hx => ?_)
  rw [hx]
  refine ⟨fun _ => ?_, fun z => absurd (Classical.not_not.mp z) hn6⟩
  refine R_isW (d := d + 3) (Y := Y) (c := 7) hs (by decide) (by decide) cls_31 (fun x hx => ?_)
  rw [hx]
  refine ⟨fun _ => ?_, fun z => absurd (Classical.not_not.mp z) hn7⟩
  refine R_isW (d := d + 3) (Y := Y) (c := 8) hs (by decide) (by decide) cls_32 (fun x hx => ?_)
  rw [hx]
  refine ⟨fun _ => ?_, fun z => absurd (Classical.not_not.mp z) hn8⟩
  refine R_isW (d := d + 3) (Y := Y) (c := 10) hs (by decide) (by decide) cls_33 (fun x hx => ?_)
  rw [hx]
  refine ⟨fun z => absurd hw z, fun _ => ?_⟩
  refine S_number (d := d + 6) (lo := 0) (hi := 16) (by decide) (by decide) (tRf.of hT) hf (fun u2 v2 fu t2 ff2 hv2 => ?_)
  have t2 : tRf N Y (fgF N Y T a) (fgA N Y T a) u2 := t2
  have ff2 : fR (fgF N Y T a) u2 := ff2
  intro w9 e9
  rw [s_Vn]
  have g : ∀ i j, ¬ (i = 79 ∧ j = 28) → w9.1 i j = u2.1 i j := fun i j q => by rw [e9, rd_ne q]
  have du := hD.x fu
  refine h w9 ((aRc_x fu).trans (by rw [e9]; exact fr.wr (aRc_w (by omega)))) (ff2.mv (g _ _ (by omega)) (g _ _ (by omega))) (fun z => ⟨?_, ?_⟩)
  · rw [z] at t2
    exact t2.no.g (fun i j q => g i j (by omega))
  · have vv2 : v2 = nI (fgR1 N Y T a).2.1 := hv2 z
    obtain ⟨⟨a1, a2, a3, a4, a5⟩, b1, b2, b3, b4, b5, b6, b7⟩ := du
    exact ⟨⟨(g _ _ (by omega)).trans a1, (g _ _ (by omega)).trans a2, (g _ _ (by omega)).trans a3, (g _ _ (by omega)).trans a4, by rw [e9, rd_s, vv2]; rfl⟩, b1.eq (fun j => g _ _ (by omega)), b2.eq (fun j => g _ _ (by omega)), b3.eq (fun j => g _ _ (by omega)), b4.eq (fun j => g _ _ (by omega)), b5.eq (fun j => g _ _ (by omega)), b6.eq (fun j => g _ _ (by omega)), b7.eq (fun j => g _ _ (by omega))⟩
theorem S_rddk {d N s a : Nat} {Y : Nat → Nat} {T : Tb} {X : s_Xo} {w : q_Sm} {Q : q_Sm → Prop} (ht : tb T) (hs : s ≤ N) (hn1 : ¬ wA N Y s 1) (hw : wA N Y s 6) (hr : T 7 2 < 12) (hT : tR N Y a w) (hf : fR none w) (hD : rD T w)
    (h : ∀ u, fr aRc w u → fR (dkF N Y T a) u → (dkF N Y T a = none → tR N Y (dkA N Y T a) u ∧ rD (dkT N Y T a) u) → Q u) : s_EvV (d + 9) 0 mX12_readRow w [.ref 79, .int (nI (wv6 N Y s))] Q X := by
  have loop : ∀ j k (u : q_Sm), k + j = 4 → fr aRc w u → tRf N Y (dkF' N Y a k) (dkA' N Y a k) u → fR (dkF' N Y a k) u → rD T u → (dkF' N Y a k = none → ∀ i, i < k → u.1 84 (4 * T 7 2 + i) = nI (dkV N Y a i)) → s_Ex (d + 9) 0 mX12_readRow 115 [some (.ref 79), none, some (.int (nI k)), none, none, none] [] u (s_V Q) X := by
    intro j
    induction j with
    | zero =>
      intro k u hk fu tu ffu du hv
      have hk : k = 4 := by omega
      subst hk
      have hcu : u.1 79 26 = nI (T 7 2) := du.1.2.2.1
      apply xX12_readRow_115
      unfold vX12_readRow_115
      refine ⟨fun _ => ?_, fun z => absurd (by decide) z⟩
      rw [hcu, nI_1]
      intro w9 e9
      rw [s_Vn]
      have g : ∀ i j, ¬ (i = 79 ∧ j = 26) → w9.1 i j = u.1 i j := fun i j q => by rw [e9, rd_ne q]
      have tu : tRf N Y (dkF N Y T a) (dkA N Y T a) u := tu
      have ffu : fR (dkF N Y T a) u := ffu
      refine h w9 (fu.trans (by rw [e9]; exact fr.wr (aRc_w (by omega)))) (ffu.mv (g _ _ (by omega)) (g _ _ (by omega))) (fun z => ⟨?_, ?_⟩)
      · rw [z] at tu
        exact tu.no.g (fun i j q => g i j (by omega))
      · obtain ⟨⟨a1, a2, a3, a4, a5⟩, b1, b2, b3, b4, b5, b6, b7⟩ := du
        refine ⟨⟨(g _ _ (by omega)).trans a1, (g _ _ (by omega)).trans a2, by rw [e9, rd_s]; rfl, (g _ _ (by omega)).trans a4, (g _ _ (by omega)).trans a5⟩, b1.eq (fun j => g _ _ (by omega)), b2.eq (fun j => g _ _ (by omega)), ?_, b4.eq (fun j => g _ _ (by omega)), b5.eq (fun j => g _ _ (by omega)), b6.eq (fun j => g _ _ (by omega)), b7.eq (fun j => g _ _ (by omega))⟩
        show holds 84 (4 * (T 7 2 + 1)) (fun j => if 4 * T 7 2 ≤ j ∧ j < 4 * T 7 2 + 4 then dkV N Y a (j - 4 * T 7 2) else T 2 j) w9
        refine holds_m b3 (fun j _ => g _ _ (by omega)) (fun j hj => if_neg (by omega)) (fun j h1 h2 => ?_)
        show w9.1 84 j = nI (if 4 * T 7 2 ≤ j ∧ j < 4 * T 7 2 + 4 then dkV N Y a (j - 4 * T 7 2) else T 2 j)
        rw [if_pos ⟨h1, by omega⟩, g _ _ (by omega)]
        have := hv z (j - 4 * T 7 2) (by omega)
        rw [show 4 * T 7 2 + (j - 4 * T 7 2) = j by omega] at this
        exact this
    | succ j ih =>
      intro k u hk fu tu ffu du hv
      have hcu : u.1 79 26 = nI (T 7 2) := du.1.2.2.1
      apply xX12_readRow_115
      unfold vX12_readRow_115
      rw [hcu, L_4, nI_leI (by omega) (by omega), nI_1 k]
      refine ⟨fun z => absurd z (by omega), fun _ => S_number (d := d + 6) (lo := 0) (hi := 40) (by decide) (by decide) tu ffu (fun u1 v1 f1 t1 ff1 hv1 => ?_)⟩
      have du1 := du.x f1
      have e4 : nI 4 * nI (T 7 2) + nI k = nI (4 * T 7 2 + k) := by try simp (disch := omega) only [s_Ii, s_Jj, s_Vn, forall_eq, L_m1, nI_add, nI_clamp, nI_leI, nI_ltI, nI_eq, vp_nI, pk_mul, pk_sub, Nat.zero_add, Nat.add_zero, wr_2, Classical.not_not, true_and, and_true, ne_eq, false_implies, true_implies, implies_true, not_true_eq_false, not_false_eq_true, ia_0, ia_1, za_1, ia_2, za_2, ia_3, za_3, ia_4, za_4, ia_5, za_5, ia_6, za_6, ia_7, za_7, ia_8, za_8, ia_9, za_9, ia_10, za_10, ia_11, za_11, ia_12, za_12, ia_13, za_13, ia_14, za_14, ia_15, za_15, ib_0, ib_1, zb_1, ic_0, ic_1, ic_2, ic_3, zc_1, zc_2, zc_3, id_0, id_1, id_2, id_3, zd_1, zd_2, zd_3, L_0, L_1, L_2, L_3, L_4, L_5, L_6, L_7, L_8, L_9, L_10, L_11, L_12, L_13, L_14, L_15, L_16, L_17, L_18, L_19, L_20, L_24, L_27, L_30, L_31, L_32, L_35, L_36, L_40, L_41, L_43, L_44, L_45, L_46, L_47, L_48, L_50, L_54, L_57, L_58, L_59, L_60, L_61, L_62, L_63, L_91, L_93, L_96, L_97, L_98, L_99, L_100, L_103, L_122, L_145, L_150, L_200, L_255, L_600, L_999, L_1000, L_2000, L_9999, L_10000, L_32767, L_12345, oI_s, oI_n, L_mn, if_true, if_false, ite_true, ite_false, Bool.false_eq_true, Nat.reduceEqDiff, Nat.reduceLeDiff, Nat.reduceLT, Nat.reduceAdd, Nat.reduceSub, Nat.reduceMul, Nat.le_refl, Nat.lt_irrefl, Nat.not_lt_zero]
      rw [e4, nI_clamp (by omega)]
      refine ⟨(vp_nI (by omega)).mpr (by omega), ?_⟩
      intro w9 e9
      have g : ∀ i j, ¬ (i = 84 ∧ j = 4 * T 7 2 + k) → w9.1 i j = u1.1 i j := fun i j q => by rw [e9, rd_ne q]
      obtain ⟨⟨a1, a2, a3, a4, a5⟩, b1, b2, b3, b4, b5, b6, b7⟩ := du1
      refine ih (k + 1) w9 (by omega) ((fu.trans (aRc_x f1)).trans (by rw [e9]; exact fr.wr (aRc_w (by omega)))) (tRf.g t1 (fun i j q => g i j (by omega))) (fR.mv ff1 (g _ _ (by omega)) (g _ _ (by omega))) ⟨⟨(g _ _ (by omega)).trans a1, (g _ _ (by omega)).trans a2, (g _ _ (by omega)).trans a3, (g _ _ (by omega)).trans a4, (g _ _ (by omega)).trans a5⟩, b1.eq (fun j => g _ _ (by omega)), b2.eq (fun j => g _ _ (by omega)), fun j hj => ?_, b4.eq (fun j => g _ _ (by omega)), b5.eq (fun j => g _ _ (by omega)), b6.eq (fun j => g _ _ (by omega)), b7.eq (fun j => g _ _ (by omega))⟩ (fun z i hi => ?_)
      · rw [g _ _ (by omega)]
        exact b3 j hj
      · by_cases e : i = k
        · rw [e, e9, rd_s]
          exact hv1 z
        · rw [g _ _ (by omega), f1.2 84 _ (aRx_n (by omega))]
          exact hv (orf_nn.mp z).1 i (by omega)
  apply eX12_readRow
  unfold vX12_readRow_0
  refine R_isW (d := d + 3) (Y := Y) (c := 1) hs (by decide) (by decide) cls_29 (fun x hx => ?_)
  rw [hx]
  refine ⟨fun _ => ?_, fun z => absurd (Classical.not_not.mp z) hn1⟩
  refine R_isW (d := d + 3) (Y := Y) (c := 6) hs (by decide) (by decide) cls_30 (fun x hx => ?_)
  rw [hx]
  refine ⟨fun z => absurd hw z, fun _ => ?_⟩
  exact loop 4 0 w (by omega) (fr.refl _ _) (tRf.of hT) hf hD (fun _ i hi => absurd hi (by omega))
theorem S_rdow {d N s a : Nat} {Y : Nat → Nat} {T : Tb} {X : s_Xo} {w : q_Sm} {Q : q_Sm → Prop} (ht : tb T) (hs : s ≤ N) (hn1 : ¬ wA N Y s 1) (hn6 : ¬ wA N Y s 6) (hn7 : ¬ wA N Y s 7) (hn8 : ¬ wA N Y s 8) (hn10 : ¬ wA N Y s 10) (hT : tR N Y a w) (hf : fR none w) (hD : rD T w)
    (h : ∀ u, fr aRc w u → fR (owF N Y T a) u → (owF N Y T a = none → tR N Y (owA N Y T a) u ∧ rD (owT N Y T a) u) → Q u) : s_EvV (d + 9) 0 mX12_readRow w [.ref 79, .int (nI (wv6 N Y s))] Q X := by
  have h6 := tb_nc ht
  have h600 := hT.1
  have hcw : w.1 79 24 = nI (T 7 0) := hD.1.1
  -- from the third number on
  have fin : ∀ (u : q_Sm) (v3 v1 v2 : Int32), fr aRx w u → tRf N Y (owF N Y T a) (owA N Y T a) u → fR (owF N Y T a) u → (owF N Y T a = none → v1 = nI (owR1 N Y T a).2.1 ∧ v2 = nI (owR2 N Y T a).2.1 ∧ v3 = nI (owR3 N Y T a).2.1) → s_EvI (d + 8) 0 mX12_fine u [.ref (79)] (fun v21 u22 => ((¬ v21 = 0) → (vp_in ((6 * v1) + v2) 36) ∧ (vp_in ((6 * v1) + v2) 36) ∧ ∀ w_23 : q_Sm, w_23 = q_wI u22 88 (Int32.toNatClampNeg ((6 * v1) + v2)) ((u22.1 88 (Int32.toNatClampNeg ((6 * v1) + v2))) + v3) → (vp_in ((6 * v1) + v2) 36) ∧ (((w_23.1 88 (Int32.toNatClampNeg ((6 * v1) + v2))) ≤ 999) → s_V Q none w_23) ∧ (¬ ((w_23.1 88 (Int32.toNatClampNeg ((6 * v1) + v2))) ≤ 999) → (vp_in ((6 * v1) + v2) 36) ∧ ∀ w_24 : q_Sm, w_24 = q_wI w_23 88 (Int32.toNatClampNeg ((6 * v1) + v2)) 999 → s_V Q none w_24)) ∧ (¬ (¬ v21 = 0) → s_V Q none u22)) X := by
    intro u v3 v1 v2 fu tu ffu hv
    refine R_fine ffu (fun z => ⟨fun _ => ?_, fun z => absurd (by decide) z⟩) (fun z => ⟨fun z => absurd rfl z, fun _ => ?_⟩)
    rotate_left
    · rw [s_Vn]
      exact h u (aRc_x fu) ffu (fun q => absurd q z)
    obtain ⟨e1, e2, e3⟩ := hv z
    subst e1 e2 e3
    have z' := z
    unfold owF at z'
    obtain ⟨z1, z2⟩ := orf_nn.mp z'
    obtain ⟨z2, _⟩ := orf_nn.mp z2
    have v1 : (owR1 N Y T a).2.1 < T 7 0 := (numH_v z1).2
    have v2 : (owR2 N Y T a).2.1 < T 7 0 := (numH_v z2).2
    have v3 : (owR3 N Y T a).2.1 ≤ 99 := (num_v (N := N) (Y := Y) (a := (owR2 N Y T a).2.2) (show 1 ≤ 99 by omega)).2
    have e6 : 6 * nI (owR1 N Y T a).2.1 + nI (owR2 N Y T a).2.1 = nI (6 * (owR1 N Y T a).2.1 + (owR2 N Y T a).2.1) := by
      have : nI 6 * nI (owR1 N Y T a).2.1 + nI (owR2 N Y T a).2.1 = nI (6 * (owR1 N Y T a).2.1 + (owR2 N Y T a).2.1) := by try simp (disch := omega) only [s_Ii, s_Jj, s_Vn, forall_eq, L_m1, nI_add, nI_clamp, nI_leI, nI_ltI, nI_eq, vp_nI, pk_mul, pk_sub, Nat.zero_add, Nat.add_zero, wr_2, Classical.not_not, true_and, and_true, ne_eq, false_implies, true_implies, implies_true, not_true_eq_false, not_false_eq_true, ia_0, ia_1, za_1, ia_2, za_2, ia_3, za_3, ia_4, za_4, ia_5, za_5, ia_6, za_6, ia_7, za_7, ia_8, za_8, ia_9, za_9, ia_10, za_10, ia_11, za_11, ia_12, za_12, ia_13, za_13, ia_14, za_14, ia_15, za_15, ib_0, ib_1, zb_1, ic_0, ic_1, ic_2, ic_3, zc_1, zc_2, zc_3, id_0, id_1, id_2, id_3, zd_1, zd_2, zd_3, L_0, L_1, L_2, L_3, L_4, L_5, L_6, L_7, L_8, L_9, L_10, L_11, L_12, L_13, L_14, L_15, L_16, L_17, L_18, L_19, L_20, L_24, L_27, L_30, L_31, L_32, L_35, L_36, L_40, L_41, L_43, L_44, L_45, L_46, L_47, L_48, L_50, L_54, L_57, L_58, L_59, L_60, L_61, L_62, L_63, L_91, L_93, L_96, L_97, L_98, L_99, L_100, L_103, L_122, L_145, L_150, L_200, L_255, L_600, L_999, L_1000, L_2000, L_9999, L_10000, L_32767, L_12345, oI_s, oI_n, L_mn, if_true, if_false, ite_true, ite_false, Bool.false_eq_true, Nat.reduceEqDiff, Nat.reduceLeDiff, Nat.reduceLT, Nat.reduceAdd, Nat.reduceSub, Nat.reduceMul, Nat.le_refl, Nat.lt_irrefl, Nat.not_lt_zero]
      exact this
    have du := hD.x fu
    have hold : u.1 88 (6 * (owR1 N Y T a).2.1 + (owR2 N Y T a).2.1) = nI (T 6 (6 * (owR1 N Y T a).2.1 + (owR2 N Y T a).2.1)) := du.2.2.2.2.2.2.2 _ (by omega)
    have h999 : T 6 (6 * (owR1 N Y T a).2.1 + (owR2 N Y T a).2.1) ≤ 999 := ht.2.2.2.2.2.2.2.1 _ (by omega)
    have hin : vp_in (nI (6 * (owR1 N Y T a).2.1 + (owR2 N Y T a).2.1)) 36 := (vp_nI (by omega)).mpr (by omega)
    rw [e6, nI_clamp (by omega), hold, nI_add]
    refine ⟨hin, hin, ?_⟩
    intro w8 e8
    have g8 : ∀ i j, ¬ (i = 88 ∧ j = 6 * (owR1 N Y T a).2.1 + (owR2 N Y T a).2.1) → w8.1 i j = u.1 i j := fun i j q => by rw [e8, rd_ne q]
    have s8 : w8.1 88 (6 * (owR1 N Y T a).2.1 + (owR2 N Y T a).2.1) = nI (T 6 (6 * (owR1 N Y T a).2.1 + (owR2 N Y T a).2.1) + (owR3 N Y T a).2.1) := by rw [e8, rd_s]
    rw [s8, L_999, nI_leI (by omega) (by omega)]
    have last : ∀ w9, (∀ i j, ¬ (i = 88 ∧ j = 6 * (owR1 N Y T a).2.1 + (owR2 N Y T a).2.1) → w9.1 i j = u.1 i j) → fr aRc u w9 → w9.1 88 (6 * (owR1 N Y T a).2.1 + (owR2 N Y T a).2.1) = nI (min 999 (T 6 (6 * (owR1 N Y T a).2.1 + (owR2 N Y T a).2.1) + (owR3 N Y T a).2.1)) → Q w9 := by
      intro w9 g f9 s9
      rw [z] at tu
      refine h w9 ((aRc_x fu).trans f9) (ffu.mv (g _ _ (by omega)) (g _ _ (by omega))) (fun _ => ⟨tu.no.g (fun i j q => g i j (by omega)), ?_⟩)
      obtain ⟨⟨a1, a2, a3, a4, a5⟩, b1, b2, b3, b4, b5, b6, b7⟩ := du
      exact ⟨⟨(g _ _ (by omega)).trans a1, (g _ _ (by omega)).trans a2, (g _ _ (by omega)).trans a3, (g _ _ (by omega)).trans a4, (g _ _ (by omega)).trans a5⟩, b1.eq (fun j => g _ _ (by omega)), b2.eq (fun j => g _ _ (by omega)), b3.eq (fun j => g _ _ (by omega)), b4.eq (fun j => g _ _ (by omega)), b5.eq (fun j => g _ _ (by omega)), b6.eq (fun j => g _ _ (by omega)), holds_u b7 (fun j hj => g _ _ (by omega)) s9⟩
    refine ⟨hin, fun q => ?_, fun q => ⟨hin, ?_⟩⟩
    · rw [s_Vn]
      exact last w8 g8 (by rw [e8]; exact fr.wr (aRc_w (by omega))) (by rw [s8, show min 999 (T 6 (6 * (owR1 N Y T a).2.1 + (owR2 N Y T a).2.1) + (owR3 N Y T a).2.1) = T 6 (6 * (owR1 N Y T a).2.1 + (owR2 N Y T a).2.1) + (owR3 N Y T a).2.1 by omega])
    · intro w9 e9
      rw [s_Vn]
      refine last w9 (fun i j q2 => by rw [e9, rd_ne q2, g8 i j q2]) (by rw [e9, e8]; exact (fr.wr (aRc_w (by omega))).put (aRc_w (by omega))) ?_
      rw [e9, rd_s, show min 999 (T 6 (6 * (owR1 N Y T a).2.1 + (owR2 N Y T a).2.1) + (owR3 N Y T a).2.1) = 999 by omega]
  apply eX12_readRow
  unfold vX12_readRow_0
  refine R_isW (d := d + 3) (Y := Y) (c := 1) hs (by decide) (by decide) cls_29 (fun x hx => ?_)
  rw [hx]
  refine ⟨fun _ => ?_, fun z => absurd (Classical.not_not.mp z) hn1⟩
  refine R_isW (d := d + 3) (Y := Y) (c := 6) hs (by decide) (by decide) cls_30 (fun x hx => ?_)
  rw [hx]
  refine ⟨fun _ => ?_, fun z => absurd (Classical.not_not.mp z) hn6⟩
  refine R_isW (d := d + 3) (Y := Y) (c := 7) hs (by decide) (by decide) cls_31 (fun x hx => ?_)
  rw [hx]
  refine ⟨fun _ => ?_, fun z => absurd (Classical.not_not.mp z) hn7⟩
  refine R_isW (d := d + 3) (Y := Y) (c := 8) hs (by decide) (by decide) cls_32 (fun x hx => ?_)
  rw [hx]
  refine ⟨fun _ => ?_, fun z => absurd (Classical.not_not.mp z) hn8⟩
  refine R_isW (d := d + 3) (Y := Y) (c := 10) hs (by decide) (by decide) cls_33 (fun x hx => ?_)
  rw [hx]
  refine ⟨fun _ => ?_, fun z => absurd (Classical.not_not.mp z) hn10⟩
  rw [hcw]
  refine S_numH (d := d + 6) (lo := 0) (H := T 7 0) (by decide) (by omega) (bd_c (by omega)) (tRf.of hT) hf (fun u1 v1 f1 t1 ff1 hv1 => ?_)
  have t1 : tRf N Y (owR1 N Y T a).1 (owR1 N Y T a).2.2 u1 := t1
  have ff1 : fR (owR1 N Y T a).1 u1 := ff1
  have hv1 : (owR1 N Y T a).1 = none → v1 = nI (owR1 N Y T a).2.1 := hv1
  obtain ⟨b1, tb1, hb1⟩ := t1
  refine R_here (d := d + 7) tb1 ff1 (fun u2 f2 t2 ff2 => ?_)
  have hc2 : u2.1 79 24 = nI (T 7 0) := by rw [f2.2 79 24 rfl, f1.2 79 24 rfl]; exact hcw
  have hsk := sk_le (Y := Y) tb1.2.1
  have hp2 : u2.1 79 4 = nI (sk N Y b1) := t2.2.2.2.1
  rw [hc2]
  have hnum : (owR1 N Y T a).1 = none → numH N Y 0 (T 7 0) (sk N Y b1) = owR2 N Y T a := by
    intro q
    rw [hb1 q]
    show numH N Y 0 (T 7 0) (sk N Y (owR1 N Y T a).2.2) = numH N Y 0 (T 7 0) (owR1 N Y T a).2.2
    unfold numH
    rw [sk_sk (by rw [← hb1 q]; exact tb1.2.1)]
  refine S_numH (d := d + 6) (lo := 0) (H := T 7 0) (by decide) (by omega) (bd_c (by omega)) (tRf.of t2) ff2 (fun u3 v2 f3 t3 ff3 hv2 => ?_)
  have e2 : orf (owR1 N Y T a).1 (numH N Y 0 (T 7 0) (sk N Y b1)).1 = orf (owR1 N Y T a).1 (owR2 N Y T a).1 := by
    cases hq : (owR1 N Y T a).1 with
    | none => rw [hnum hq]
    | some y => rfl
  have t3 : tRf N Y (orf (owR1 N Y T a).1 (owR2 N Y T a).1) (owR2 N Y T a).2.2 u3 := by
    obtain ⟨b3, x1, x2⟩ := t3
    refine ⟨b3, x1, fun q => ?_⟩
    rw [← hnum (orf_nn.mp q).1]
    exact x2 (by rw [e2]; exact q)
  rw [e2] at ff3 hv2
  have hv2 : orf (owR1 N Y T a).1 (owR2 N Y T a).1 = none → v2 = nI (owR2 N Y T a).2.1 := fun q => by rw [← hnum (orf_nn.mp q).1]; exact hv2 q
  have fr3 := (f1.trans f2).trans f3
  rw [hp2]
  -- the third number, from any memory
  have third : ∀ u4 g, fr aRx w u4 → g = orf (owR1 N Y T a).1 (orf (owR2 N Y T a).1 (owE N Y T a)) → tRf N Y g (owR2 N Y T a).2.2 u4 → fR g u4 → s_EvI (d + 8) 0 mX12_readNumber u4 [.ref 79, .int 1, .int 99] (fun v3 u5 => s_EvI (d + 8) 0 mX12_fine u5 [.ref (79)] (fun v21 u22 => ((¬ v21 = 0) → (vp_in ((6 * v1) + v2) 36) ∧ (vp_in ((6 * v1) + v2) 36) ∧ ∀ w_23 : q_Sm, w_23 = q_wI u22 88 (Int32.toNatClampNeg ((6 * v1) + v2)) ((u22.1 88 (Int32.toNatClampNeg ((6 * v1) + v2))) + v3) → (vp_in ((6 * v1) + v2) 36) ∧ (((w_23.1 88 (Int32.toNatClampNeg ((6 * v1) + v2))) ≤ 999) → s_V Q none w_23) ∧ (¬ ((w_23.1 88 (Int32.toNatClampNeg ((6 * v1) + v2))) ≤ 999) → (vp_in ((6 * v1) + v2) 36) ∧ ∀ w_24 : q_Sm, w_24 = q_wI w_23 88 (Int32.toNatClampNeg ((6 * v1) + v2)) 999 → s_V Q none w_24)) ∧ (¬ (¬ v21 = 0) → s_V Q none u22)) X) X := by
    intro u4 g f4 hg t4 ff4
    subst hg
    refine S_number (d := d + 6) (lo := 1) (hi := 99) (by decide) (by decide) t4 ff4 (fun u5 v3 f5 t5 ff5 hv3 => ?_)
    simp only [orf_a] at t5 ff5 hv3
    have t5 : tRf N Y (owF N Y T a) (owA N Y T a) u5 := t5
    have ff5 : fR (owF N Y T a) u5 := ff5
    refine fin u5 v3 v1 v2 (f4.trans f5) t5 ff5 (fun q => ?_)
    have q' := q
    unfold owF at q'
    obtain ⟨q1, q2⟩ := orf_nn.mp q'
    obtain ⟨q2, q3⟩ := orf_nn.mp q2
    exact ⟨hv1 q1, hv2 (orf_nn.mpr ⟨q1, q2⟩), hv3 q'⟩
  have hE : owE N Y T a = if (owR1 N Y T a).2.1 = (owR2 N Y T a).2.1 then some (2, sk N Y (owR1 N Y T a).2.2) else none := rfl
  refine R_fine ff3 (fun z => ⟨fun z => absurd z (by decide), fun _ => ?_⟩) (fun z => ⟨fun _ => ?_, fun z => absurd rfl z⟩)
  · obtain ⟨z1, z2⟩ := orf_nn.mp z
    have y1 := (numH_v z1).2
    have y2 := (numH_v z2).2
    have y1 : (owR1 N Y T a).2.1 < T 7 0 := y1
    have y2 : (owR2 N Y T a).2.1 < T 7 0 := y2
    have w1 := hv1 z1
    have w2 := hv2 z
    refine ⟨fun q => third u3 _ fr3 ?_ t3 ff3, fun q => ?_⟩
    · have : ¬ (owR1 N Y T a).2.1 = (owR2 N Y T a).2.1 := fun e => q (by rw [w1, w2, e])
      rw [if_neg this] at hE
      rw [hE, orf_n]
    · have q := Classical.not_not.mp q
      rw [w1, w2, nI_eq (by omega) (by omega)] at q
      rw [if_pos q] at hE
      rw [hb1 z1]
      have hb := hb1 z1
      refine R_wrong (k := 2) (d := d + 7) ff3 (by decide) (by decide) (by rw [← hb]; omega) (fun u4 f4 g4 ff4 => ?_)
      simp only [orf_a] at ff4
      rw [← hE] at ff4
      refine third u4 _ (fr3.trans f4) rfl ?_ ff4
      obtain ⟨b3, x1, x2⟩ := t3
      refine ⟨b3, x1.mv f4 (g4.trans x1.2.2.2.1) x1.2.1, fun q2 => ?_⟩
      exact x2 z
  · refine third u3 _ fr3 ?_ t3 ff3
    rw [← orf_a]
    cases hq : orf (owR1 N Y T a).1 (owR2 N Y T a).1 with
    | none => exact absurd hq z
    | some y => rfl
