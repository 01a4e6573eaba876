/-! the book's text -/
def b3 (B : Nat → Nat) (m x y z : Nat) : Nat → Nat := fun i => if i = 3 * m then x else if i = 3 * m + 1 then y else if i = 3 * m + 2 then z else B i
noncomputable def bA1 (N : Nat) (Y : Nat → Nat) (a : Nat) : Nat := (num N Y 0 60 a).2.2
noncomputable def bA2 (N : Nat) (Y : Nat → Nat) (a : Nat) : Nat := (col N Y (bA1 N Y a)).2.2
noncomputable def bA3 (N : Nat) (Y : Nat → Nat) (a : Nat) : Nat := (num N Y 0 40 (bA2 N Y a)).2.2
noncomputable def bA4 (N : Nat) (Y : Nat → Nat) (a : Nat) : Nat := (sig N Y 59 (bA3 N Y a)).2
noncomputable def bF1 (N : Nat) (Y : Nat → Nat) (m a : Nat) : Option (Nat × Nat) := orf (num N Y 0 60 a).1 (if m < 10 then none else some (3, sk N Y a))
noncomputable def bF2 (N : Nat) (Y : Nat → Nat) (m a : Nat) : Option (Nat × Nat) := orf (orf (bF1 N Y m a) (col N Y (bA1 N Y a)).1) (num N Y 0 40 (bA2 N Y a)).1
noncomputable def bF3 (N : Nat) (Y : Nat → Nat) (m a : Nat) : Option (Nat × Nat) := orf (bF2 N Y m a) (sig N Y 59 (bA3 N Y a)).1
noncomputable def bL (N : Nat) (Y : Nat → Nat) (m a : Nat) (B : Nat → Nat) : Nat → Nat := b3 B m (num N Y 0 60 a).2.1 (col N Y (bA1 N Y a)).2.1 (num N Y 0 40 (bA2 N Y a)).2.1
noncomputable def bkp (N : Nat) (Y : Nat → Nat) : Nat → Nat → Nat → (Nat → Nat) → Option (Nat × Nat) × Nat × (Nat → Nat)
  | 0, m, _, B => (none, m, B)
  | j + 1, m, a, B => @ite _ (sk N Y a < N) (Classical.propDecidable _) (match bF3 N Y m (sk N Y a) with
    | some x => (some x, m, B)
    | none => bkp N Y j (m + 1) (bA4 N Y (sk N Y a)) (bL N Y m (sk N Y a) B)) (none, m, B)
theorem orf_nn {f g : Option (Nat × Nat)} : orf f g = none ↔ f = none ∧ g = none := by
  cases f with
  | none => exact ⟨fun h => ⟨rfl, h⟩, fun h => h.2⟩
  | some x => exact ⟨fun h => by simp [orf] at h, fun h => by simp at h⟩
theorem num_v {N lo hi a : Nat} {Y : Nat → Nat} (hl : lo ≤ hi) : lo ≤ (num N Y lo hi a).2.1 ∧ (num N Y lo hi a).2.1 ≤ hi := by
  unfold num
  split
  · split
    · rename_i q; exact q
    · exact ⟨Nat.le_refl _, hl⟩
  · exact ⟨Nat.le_refl _, hl⟩
theorem col_v {N a : Nat} {Y : Nat → Nat} : (col N Y a).2.1 < 4 := by
  unfold col
  split
  · rename_i k q; exact cW_le q
  · show 3 < 4; omega
/-- lines in the class, in the reference -/
def bl (o m : Nat) (B : Nat → Nat) (w : q_Sm) : Prop := m ≤ 10 ∧ w.1 o 0 = nI m ∧ ∀ i, i < m → (w.1 (o + 1) i = nI (B (3 * i)) ∧ w.1 (o + 2) i = nI (B (3 * i + 1)) ∧ w.1 (o + 3) i = nI (B (3 * i + 2))) ∧ B (3 * i) ≤ 60 ∧ B (3 * i + 1) < 4 ∧ B (3 * i + 2) ≤ 40
def aBk (o i j : Nat) : Bool := aTx i j || (i == o && j == 0) || i == o + 1 || i == o + 2 || i == o + 3
theorem aBk_T {o : Nat} {w u : q_Sm} (h : fr aTx w u) : fr (aBk o) w u := h.mono (fun i j q => by simp [aBk, q])
theorem bl.T {o m : Nat} {B : Nat → Nat} {w u : q_Sm} (ho : o = 44 ∨ o = 48) (h : bl o m B w) (hf : fr aTx w u) : bl o m B u := by
  refine ⟨h.1, by rw [hf.2 o 0 (by simp [aTx])]; exact h.2.1, fun i hi => ?_⟩
  have q : ∀ t j, 1 ≤ t → aTx (o + t) j = false := fun t j ht => by
    have : ¬ (o + t = 2) := by omega
    simp [aTx, this]
  rw [hf.2 (o + 1) i (q 1 i (by omega)), hf.2 (o + 2) i (q 2 i (by omega)), hf.2 (o + 3) i (q 3 i (by omega))]
  exact h.2.2 i hi
theorem b3_0 {B : Nat → Nat} {m x y z : Nat} : b3 B m x y z (3 * m) = x := by simp [b3]
theorem b3_1 {B : Nat → Nat} {m x y z : Nat} : b3 B m x y z (3 * m + 1) = y := by simp [b3]
theorem b3_2 {B : Nat → Nat} {m x y z : Nat} : b3 B m x y z (3 * m + 2) = z := by simp [b3]
theorem b3_n {B : Nat → Nat} {m x y z i : Nat} (h : i < 3 * m) : b3 B m x y z i = B i := by
  unfold b3
  rw [if_neg (by omega), if_neg (by omega), if_neg (by omega)]
theorem fC_le {f : Option (Nat × Nat)} {w : q_Sm} (h : fC f w) : ∀ k p, f = some (k, p) → 0 < k ∧ k < 4 ∧ p ≤ 600 := by
  rintro k p rfl
  exact h.2.2
theorem K_readLine {d N a m o : Nat} {Y B : Nat → Nat} {X : s_Xo} {w : q_Sm} {Q : q_Sm → Prop} (ho : o = 44 ∨ o = 48) (hT : tC N Y a w) (hf : fC none w) (hb : bl o m B w)
    (h : ∀ u, fr (aBk o) w u → tC N Y (bA3 N Y a) u → fC (bF2 N Y m a) u → (bF2 N Y m a = none → bl o (m + 1) (bL N Y m a B) u) → Q u) : s_EvV (d + 7) 0 mX1_readLine w [.ref o, .ref 2] Q X := by
  have h600 := hT.1
  have hsN := sk_le (Y := Y) hT.2.1
  have hm := hb.1
  have hid : q_id 116 1 o := id_0 ho
  have tail : ∀ u, fr (aBk o) w u → tC N Y (bA1 N Y a) u → fC (bF1 N Y m a) u → bl o m B u → s_Ex (d + 7) 0 mX1_readLine 26 [some (.ref o), some (.ref 2), some (.int (nI (num N Y 0 60 a).2.1)), none, none] [] u (s_V Q) X := by
    intro u fu tu ffu bu
    apply xX1_readLine_26
    unfold vX1_readLine_26
    refine K_colour (d := d) tu ffu (fun u2 f2 t2 ff2 _ => K_number (d := d + 4) (lo := 0) (hi := 40) (by decide) (by decide) t2 ff2 (fun u3 f3 t3 ff3 _ => ?_))
    have ff3 : fC (bF2 N Y m a) u3 := ff3
    have t3 : tC N Y (bA3 N Y a) u3 := t3
    have fr3 := fu.trans (aBk_T (o := o) (f2.trans f3))
    have bl3 := bu.T ho (f2.trans f3)
    apply eX10_failed
    unfold vX10_failed_0
    rw [fC_5 ff3, s_Ii, s_Ii, s_Vn]
    refine ⟨fun z => ⟨fun z => absurd rfl z, fun _ => ⟨hid, ?_⟩⟩, fun z => ⟨fun _ => h u3 fr3 t3 ff3 (fun q => absurd q z), fun z => absurd (by decide) z⟩⟩
    have hm10 : m < 10 := by
      have := (orf_nn.mp (orf_nn.mp (orf_nn.mp z).1).1).2
      apply Classical.byContradiction
      intro q
      rw [if_neg q] at this
      simp at this
    have hv1 := (num_v (N := N) (Y := Y) (a := a) (show 0 ≤ 60 by omega)).2
    have hv2 := col_v (N := N) (Y := Y) (a := bA1 N Y a)
    have hv3 := (num_v (N := N) (Y := Y) (a := bA2 N Y a) (show 0 ≤ 40 by omega)).2
    have hin : ∀ t, t = 1 ∨ t = 2 ∨ t = 3 → q_id 116 14 (o + t) ∧ vp_in (nI m) (q_sh (o + t)).2 := by
      intro t ht
      have : q_id 116 14 (o + t) ∧ (q_sh (o + t)).2 = 10 := by
        rcases ht with rfl | rfl | rfl
        · exact ⟨id_1 ho, zd_1 ho⟩
        · exact ⟨id_2 ho, zd_2 ho⟩
        · exact ⟨id_3 ho, zd_3 ho⟩
      exact ⟨this.1, by rw [this.2]; exact (vp_nI (by omega)).mpr hm10⟩
    have hle : ¬ ((10 : Int32) ≤ nI m) := by
      try simp (disch := omega) only [s_Ii, s_Jj, s_Vn, forall_eq, L_m1, nI_add, nI_clamp, nI_leI, nI_ltI, nI_eq, vp_nI, pk_mul, pk_sub, Nat.zero_add, Nat.add_zero, wr_2, Classical.not_not, true_and, and_true, ne_eq, false_implies, true_implies, implies_true, not_true_eq_false, not_false_eq_true, ia_0, ia_1, za_1, ia_2, za_2, ia_3, za_3, ia_4, za_4, ia_5, za_5, ia_6, za_6, ia_7, za_7, ia_8, za_8, ia_9, za_9, ia_10, za_10, ia_11, za_11, ia_12, za_12, ia_13, za_13, ia_14, za_14, ia_15, za_15, ib_0, ib_1, zb_1, ic_0, ic_1, ic_2, ic_3, zc_1, zc_2, zc_3, id_0, id_1, id_2, id_3, zd_1, zd_2, zd_3, L_0, L_1, L_2, L_3, L_4, L_5, L_6, L_7, L_8, L_9, L_10, L_11, L_12, L_13, L_14, L_15, L_16, L_17, L_18, L_19, L_20, L_24, L_27, L_30, L_31, L_32, L_35, L_36, L_40, L_41, L_43, L_44, L_45, L_46, L_47, L_48, L_50, L_54, L_57, L_58, L_59, L_60, L_61, L_62, L_63, L_91, L_93, L_96, L_97, L_98, L_99, L_100, L_103, L_122, L_145, L_150, L_200, L_255, L_600, L_999, L_1000, L_2000, L_9999, L_10000, L_32767, L_12345, oI_s, oI_n, L_mn, if_true, if_false, ite_true, ite_false, Bool.false_eq_true, Nat.reduceEqDiff, Nat.reduceLeDiff, Nat.reduceLT, Nat.reduceAdd, Nat.reduceSub, Nat.reduceMul, Nat.le_refl, Nat.lt_irrefl, Nat.not_lt_zero]
      omega
    rw [bl3.2.1]
    refine ⟨fun z => absurd z hle, fun _ => ⟨hid, hid, (hin 1 (by omega)).1, (hin 1 (by omega)).2, ?_⟩⟩
    rw [nI_clamp (by omega)]
    rintro _ rfl
    rw [rd_i (show o ≠ o + 1 by omega), bl3.2.1, nI_clamp (by omega)]
    refine ⟨hid, hid, (hin 2 (by omega)).1, (hin 2 (by omega)).2, ?_⟩
    rintro _ rfl
    rw [rd_i (show o ≠ o + 2 by omega), rd_i (show o ≠ o + 1 by omega), bl3.2.1, nI_clamp (by omega)]
    refine ⟨hid, hid, (hin 3 (by omega)).1, (hin 3 (by omega)).2, ?_⟩
    rintro _ rfl
    rw [rd_i (show o ≠ o + 3 by omega), rd_i (show o ≠ o + 2 by omega), rd_i (show o ≠ o + 1 by omega), bl3.2.1, nI_1 m]
    refine ⟨hid, hid, ?_⟩
    intro w7 e7
    rw [s_Vn]
    have f7 : fr (aBk o) u3 w7 := by
      rw [e7]
      exact ((((fr.wr (by simp [aBk])).put (by simp [aBk])).put (by simp [aBk])).put (by simp [aBk]))
    have g7 : ∀ i j, i = 2 ∨ i = 3 → w7.1 i j = u3.1 i j := by
      intro i j q
      rw [e7, rd_i (by omega), rd_i (by omega), rd_i (by omega), rd_i (by omega)]
    refine h w7 (fr3.trans f7) ⟨t3.1, t3.2.1, by rw [g7 _ _ (by omega)]; exact t3.2.2.1, by rw [g7 _ _ (by omega)]; exact t3.2.2.2.1, fun k hk => by rw [g7 _ _ (by omega)]; exact t3.2.2.2.2 k hk⟩ (ff3.mv (g7 _ _ (by omega)) (g7 _ _ (by omega))) (fun _ => ⟨by omega, by rw [e7, rd_s], fun i hi => ?_⟩)
    unfold bL
    by_cases q : i = m
    · subst q
      rw [b3_0, b3_1, b3_2]
      refine ⟨⟨?_, ?_, ?_⟩, hv1, hv2, hv3⟩
      · rw [e7, rd_i (by omega), rd_i (by omega), rd_i (by omega), rd_s]
      · rw [e7, rd_i (by omega), rd_i (by omega), rd_s]
      · rw [e7, rd_i (by omega), rd_s]; rfl
    · rw [b3_n (by omega), b3_n (by omega), b3_n (by omega)]
      have := bl3.2.2 i (by omega)
      refine ⟨⟨?_, ?_, ?_⟩, this.2⟩
      · rw [e7, rd_i (by omega), rd_i (by omega), rd_i (by omega), rd_j q]; exact this.1.1
      · rw [e7, rd_i (by omega), rd_i (by omega), rd_j q, rd_i (by omega)]; exact this.1.2.1
      · rw [e7, rd_i (by omega), rd_j q, rd_i (by omega), rd_i (by omega)]; exact this.1.2.2
  apply eX1_readLine
  unfold vX1_readLine_0
  refine K_number (d := d + 4) (lo := 0) (hi := 60) (by decide) (by decide) hT hf (fun u fu tu ffu su => ?_)
  have bu := hb.T ho fu
  rw [bu.2.1, L_10, nI_ltI (by omega) (by omega)]
  have hF : bF1 N Y m a = orf (num N Y 0 60 a).1 (if m < 10 then none else some (3, sk N Y a)) := rfl
  refine ⟨hid, fun z => ?_, fun z => ?_⟩
  · rw [if_pos z, orf_n] at hF
    exact tail u (aBk_T fu) tu (by rw [hF]; exact ffu) bu
  · rw [if_neg z] at hF
    apply eX10_startOfLast
    unfold vX10_startOfLast_0
    rw [s_Ii, su]
    refine K_blame (k := 3) ffu (by decide) (by decide) (by omega) (fun u2 g1 g2 g3 g4 => ?_)
    exact tail u2 (aBk_T (fu.trans g1)) (tu.mv g1 (g2.trans tu.2.2.2.1) tu.2.1) (by rw [hF]; exact g4) (bu.T ho g1)
