/-! the reference reads -/
def tR (N : Nat) (Y : Nat → Nat) (a : Nat) (w : q_Sm) : Prop := N ≤ 600 ∧ a ≤ N ∧ w.1 79 3 = nI N ∧ w.1 79 4 = nI a ∧ ∀ k, k < N → Y k < 256 ∧ w.1 81 k = nI (Y k)
def fR (f : Option (Nat × Nat)) (w : q_Sm) : Prop := match f with
  | none => w.1 79 5 = oI none
  | some (k, p) => w.1 79 5 = nI p ∧ w.1 79 6 = nI k ∧ 0 < k ∧ k < 4 ∧ p ≤ 600
def aRx (i j : Nat) : Bool := i == 79 && (j == 4 || j == 5 || j == 6)
theorem tR.mv {N : Nat} {Y : Nat → Nat} {a a' : Nat} {w u : q_Sm} (h : tR N Y a w) (hf : fr aRx w u) (h3 : u.1 79 4 = nI a') (ha : a' ≤ N) : tR N Y a' u := by
  refine ⟨h.1, ha, by rw [hf.2 79 3 rfl]; exact h.2.2.1, h3, fun k hk => ?_⟩
  rw [hf.2 81 k (by simp [aRx])]
  exact h.2.2.2.2 k hk
theorem fR.mv {f : Option (Nat × Nat)} {w u : q_Sm} (h : fR f w) (h5 : u.1 79 5 = w.1 79 5) (h6 : u.1 79 6 = w.1 79 6) : fR f u := by
  unfold fR at h ⊢
  rw [h5, h6]
  exact h
theorem fR_5 {f : Option (Nat × Nat)} {w : q_Sm} (h : fR f w) : (w.1 79 5 = -1) ↔ f = none := by
  cases f with
  | none => exact ⟨fun _ => rfl, fun _ => h⟩
  | some x =>
    obtain ⟨k, p⟩ := x
    have h : w.1 79 5 = nI p ∧ w.1 79 6 = nI k ∧ 0 < k ∧ k < 4 ∧ p ≤ 600 := h
    rw [h.1]
    exact ⟨fun z => ((oI_n (show p < 2 ^ 31 by omega)).mp z).elim, fun z => by simp at z⟩
theorem R_fine {d : Nat} {f : Option (Nat × Nat)} {w : q_Sm} {Q : Int32 → q_Sm → Prop} {X : s_Xo} (hf : fR f w) (h1 : f = none → Q 1 w) (h0 : f ≠ none → Q 0 w) : s_EvI (d + 1) 0 mX12_fine w [.ref 79] Q X := by
  apply eX12_fine
  unfold vX12_fine_0
  rw [fR_5 hf, s_Ii, s_Ii]
  exact ⟨h0, fun z => h1 (Classical.not_not.mp z)⟩
theorem R_wrong {d k p : Nat} {X : s_Xo} {f : Option (Nat × Nat)} {w : q_Sm} {Q : q_Sm → Prop} (hf : fR f w) (hk : 0 < k) (hk4 : k < 4) (hp : p ≤ 600) (h : ∀ u, fr aRx w u → u.1 79 4 = w.1 79 4 → fR (orf f (some (k, p))) u → Q u) : s_EvV (d + 1) 0 mX12_wrong w [.ref 79, .int (nI k), .int (nI p)] Q X := by
  apply eX12_wrong
  unfold vX12_wrong_0
  rw [fR_5 hf, s_Vn]
  cases f with
  | none =>
    refine ⟨fun _ => ?_, fun z => absurd rfl z⟩
    rintro _ rfl _ rfl
    rw [s_Vn]
    refine h _ ((fr.wr rfl).put rfl) ?_ ⟨?_, ?_, hk, hk4, hp⟩
    · rw [rd_j (by decide), rd_j (by decide)]
    · rw [rd_j (by decide), rd_s]
    · rw [rd_s]
  | some x => exact ⟨fun z => by simp at z, fun _ => h w (fr.refl _ _) rfl hf⟩
def pk0 (N : Nat) (Y : Nat → Nat) (a : Nat) : Nat := if a < N then Y a else 0
theorem R_hereL {d N : Nat} {Y : Nat → Nat} {X : s_Xo} {f : Option (Nat × Nat)} : ∀ j a (w : q_Sm) (Q : Int32 → q_Sm → Prop), a + j = N → tR N Y a w → fR f w → (∀ u, fr aRx w u → tR N Y (sk N Y a) u → fR f u → Q (nI (pk0 N Y (sk N Y a))) u) → s_Ex (d + 1) 0 mX12_here 0 [some (.ref 79)] [] w (s_I Q) X := by
  intro j
  induction j with
  | zero =>
    intro a w Q hj hT hf h
    have : sk N Y a = a := rn_e (by omega)
    rw [this] at h
    unfold pk0 at h
    rw [if_neg (by omega)] at h
    have h600 := hT.1
    apply xX12_here_0
    unfold vX12_here_0
    rw [hT.2.2.1, hT.2.2.2.1, nI_leI (by omega) (by omega), s_Ii]
    exact ⟨fun _ => ⟨fun _ => h w (fr.refl _ _) hT hf, fun z => absurd (by omega) z⟩, fun z => absurd (by omega) z⟩
  | succ j ih =>
    intro a w Q hj hT hf h
    have h600 := hT.1
    obtain ⟨hy, hby⟩ := hT.2.2.2.2 a (by omega)
    apply xX12_here_0
    unfold vX12_here_0
    rw [hT.2.2.1, hT.2.2.2.1, nI_leI (by omega) (by omega), nI_clamp (by omega), hby, L_32, nI_eq (by omega) (by omega), nI_1 a]
    have hin : vp_in (nI a) 600 := (vp_nI (by omega)).mpr (by omega)
    refine ⟨fun z => absurd z (by omega), fun _ => ⟨hin, fun z => ⟨fun z => absurd z (by omega), fun _ => ⟨hin, ?_⟩⟩, fun z => ?_⟩⟩
    · have : sk N Y a = a := rn_x (by omega) (by simp [pB]; exact z)
      rw [this] at h
      unfold pk0 at h
      rw [if_pos (by omega)] at h
      rw [s_Ii]
      exact h w (fr.refl _ _) hT hf
    · have z := Classical.not_not.mp z
      have : sk N Y a = sk N Y (a + 1) := rn_y (by omega) (by simp [pB]; exact z)
      rw [this] at h
      rintro _ rfl
      have f1 : fr aRx w (q_wI w 79 4 (nI (a + 1))) := fr.wr rfl
      refine ih (a + 1) _ Q (by omega) (hT.mv f1 rd_s (by omega)) (hf.mv (rd_j (by decide)) (rd_j (by decide))) (fun u fu tu ffu => ?_)
      exact h u (f1.trans fu) tu ffu
theorem R_here {d N a : Nat} {Y : Nat → Nat} {X : s_Xo} {f : Option (Nat × Nat)} {w : q_Sm} {Q : Int32 → q_Sm → Prop} (hT : tR N Y a w) (hf : fR f w) (h : ∀ u, fr aRx w u → tR N Y (sk N Y a) u → fR f u → Q (nI (pk0 N Y (sk N Y a))) u) : s_EvI (d + 1) 0 mX12_here w [.ref 79] Q X := by
  have := R_hereL (d := d) (X := X) (N - a) a w Q (by have := hT.2.1; omega) hT hf h
  exact s_of (by decide +kernel) rfl (Nat.le_of_ble_eq_true rfl) this
theorem R_isDigit {d y : Nat} {X : s_Xo} {w : q_Sm} {Q : Int32 → q_Sm → Prop} (hy : y < 256) (h : Q (nI (if 48 ≤ y ∧ y ≤ 57 then 1 else 0)) w) : s_EvI (d + 1) 0 mX12_isDigit w [.int (nI y)] Q X := by
  apply eX12_isDigit
  unfold vX12_isDigit_0
  try simp (disch := omega) only [s_Ii, s_Jj, s_Vn, forall_eq, L_m1, nI_add, nI_clamp, nI_leI, nI_ltI, nI_eq, vp_nI, pk_mul, pk_sub, Nat.zero_add, Nat.add_zero, wr_2, Classical.not_not, true_and, and_true, ne_eq, false_implies, true_implies, implies_true, not_true_eq_false, not_false_eq_true, ia_0, ia_1, za_1, ia_2, za_2, ia_3, za_3, ia_4, za_4, ia_5, za_5, ia_6, za_6, ia_7, za_7, ia_8, za_8, ia_9, za_9, ia_10, za_10, ia_11, za_11, ia_12, za_12, ia_13, za_13, ia_14, za_14, ia_15, za_15, ib_0, ib_1, zb_1, ic_0, ic_1, ic_2, ic_3, zc_1, zc_2, zc_3, id_0, id_1, id_2, id_3, zd_1, zd_2, zd_3, L_0, L_1, L_2, L_3, L_4, L_5, L_6, L_7, L_8, L_9, L_10, L_11, L_12, L_13, L_14, L_15, L_16, L_17, L_18, L_19, L_20, L_24, L_27, L_30, L_31, L_32, L_35, L_36, L_40, L_41, L_43, L_44, L_45, L_46, L_47, L_48, L_50, L_54, L_57, L_58, L_59, L_60, L_61, L_62, L_63, L_91, L_93, L_96, L_97, L_98, L_99, L_100, L_103, L_122, L_145, L_150, L_200, L_255, L_600, L_999, L_1000, L_2000, L_9999, L_10000, L_32767, L_12345, oI_s, oI_n, L_mn, if_true, if_false, ite_true, ite_false, Bool.false_eq_true, Nat.reduceEqDiff, Nat.reduceLeDiff, Nat.reduceLT, Nat.reduceAdd, Nat.reduceSub, Nat.reduceMul, Nat.le_refl, Nat.lt_irrefl, Nat.not_lt_zero]
  refine ⟨fun z => ?_, fun z => ⟨fun z2 => ?_, fun z2 => ?_⟩⟩
  · rw [if_neg (by omega)] at h; exact h
  · rw [if_neg (by omega)] at h; exact h
  · rw [if_pos (by omega)] at h; exact h
theorem R_isSmall {d y : Nat} {X : s_Xo} {w : q_Sm} {Q : Int32 → q_Sm → Prop} (hy : y < 256) (h : Q (nI (if 97 ≤ y ∧ y ≤ 122 then 1 else 0)) w) : s_EvI (d + 1) 0 mX12_isSmall w [.int (nI y)] Q X := by
  apply eX12_isSmall
  unfold vX12_isSmall_0
  try simp (disch := omega) only [s_Ii, s_Jj, s_Vn, forall_eq, L_m1, nI_add, nI_clamp, nI_leI, nI_ltI, nI_eq, vp_nI, pk_mul, pk_sub, Nat.zero_add, Nat.add_zero, wr_2, Classical.not_not, true_and, and_true, ne_eq, false_implies, true_implies, implies_true, not_true_eq_false, not_false_eq_true, ia_0, ia_1, za_1, ia_2, za_2, ia_3, za_3, ia_4, za_4, ia_5, za_5, ia_6, za_6, ia_7, za_7, ia_8, za_8, ia_9, za_9, ia_10, za_10, ia_11, za_11, ia_12, za_12, ia_13, za_13, ia_14, za_14, ia_15, za_15, ib_0, ib_1, zb_1, ic_0, ic_1, ic_2, ic_3, zc_1, zc_2, zc_3, id_0, id_1, id_2, id_3, zd_1, zd_2, zd_3, L_0, L_1, L_2, L_3, L_4, L_5, L_6, L_7, L_8, L_9, L_10, L_11, L_12, L_13, L_14, L_15, L_16, L_17, L_18, L_19, L_20, L_24, L_27, L_30, L_31, L_32, L_35, L_36, L_40, L_41, L_43, L_44, L_45, L_46, L_47, L_48, L_50, L_54, L_57, L_58, L_59, L_60, L_61, L_62, L_63, L_91, L_93, L_96, L_97, L_98, L_99, L_100, L_103, L_122, L_145, L_150, L_200, L_255, L_600, L_999, L_1000, L_2000, L_9999, L_10000, L_32767, L_12345, oI_s, oI_n, L_mn, if_true, if_false, ite_true, ite_false, Bool.false_eq_true, Nat.reduceEqDiff, Nat.reduceLeDiff, Nat.reduceLT, Nat.reduceAdd, Nat.reduceSub, Nat.reduceMul, Nat.le_refl, Nat.lt_irrefl, Nat.not_lt_zero]
  refine ⟨fun z => ?_, fun z => ⟨fun z2 => ?_, fun z2 => ?_⟩⟩
  · rw [if_neg (by omega)] at h; exact h
  · rw [if_neg (by omega)] at h; exact h
  · rw [if_pos (by omega)] at h; exact h
theorem R_isMore {d N a : Nat} {Y : Nat → Nat} {X : s_Xo} {f : Option (Nat × Nat)} {w : q_Sm} {Q : Int32 → q_Sm → Prop} (hT : tR N Y a w) (hf : fR f w) (h1 : ∀ u, fr aRx w u → tR N Y (sk N Y a) u → fR f u → sk N Y a < N → Q 1 u) (h0 : ∀ u, fr aRx w u → tR N Y (sk N Y a) u → fR f u → ¬ sk N Y a < N → Q 0 u) : s_EvI (d + 2) 0 mX12_isMore w [.ref 79] Q X := by
  have h600 := hT.1
  have haN := hT.2.1
  have hsN := sk_le (Y := Y) haN
  apply eX12_isMore
  unfold vX12_isMore_0
  refine R_here hT hf (fun u fu tu ffu => ?_)
  rw [tu.2.2.1, tu.2.2.2.1, nI_leI (by omega) (by omega), s_Ii, s_Ii]
  exact ⟨fun z => h0 u fu tu ffu (by omega), fun z => h1 u fu tu ffu (by omega)⟩
theorem R_sign {d N a c : Nat} {Y : Nat → Nat} {X : s_Xo} {f : Option (Nat × Nat)} {w : q_Sm} {Q : q_Sm → Prop} (hc : c < 256) (hc0 : 0 < c) (hT : tR N Y a w) (hf : fR f w) (h : ∀ u a', fr aRx w u → tR N Y a' u → (orf f (sig N Y c a).1 = none → a' = (sig N Y c a).2) → fR (orf f (sig N Y c a).1) u → Q u) : s_EvV (d + 2) 0 mX12_sign w [.ref 79, .int (nI c)] Q X := by
  have h600 := hT.1
  have haN := hT.2.1
  have hsN := sk_le (Y := Y) haN
  unfold sig at h
  apply eX12_sign
  unfold vX12_sign_0
  refine R_fine hf (fun z => ?_) (fun z => ?_)
  · subst z
    refine ⟨fun z => absurd z (by decide), fun _ => R_here hT hf (fun u fu tu ffu => ?_)⟩
    generalize sk N Y a = s at h tu hsN
    have hpk : pk0 N Y s < 256 := by
      unfold pk0
      split
      · rename_i q; exact (tu.2.2.2.2 s q).1
      · decide
    show (nI (pk0 N Y s) = nI c → _) ∧ (¬ nI (pk0 N Y s) = nI c → _)
    rw [nI_eq (by omega) (by omega)]
    refine ⟨fun z => R_fine ffu (fun _ => ?_) (fun z => absurd rfl z), fun z => ?_⟩
    · have hs : s < N ∧ Y s = c := by
        unfold pk0 at z
        by_cases q : s < N
        · rw [if_pos q] at z; exact ⟨q, z⟩
        · rw [if_neg q] at z; omega
      rw [if_pos hs] at h
      refine ⟨fun z => absurd z (by decide), fun _ => ?_⟩
      rintro _ rfl
      rw [s_Vn]
      have f6 : fr aRx u (q_wI u 79 4 (u.1 79 4 + 1)) := fr.wr rfl
      refine h _ (s + 1) (fu.trans f6) (tu.mv f6 (by rw [rd_s, tu.2.2.2.1, nI_1 s]) (by omega)) (fun _ => rfl) (ffu.mv (rd_j (by decide)) (rd_j (by decide)))
    · have hs : ¬ (s < N ∧ Y s = c) := by
        intro q
        unfold pk0 at z
        rw [if_pos q.1] at z
        exact z q.2
      rw [if_neg hs] at h
      rw [tu.2.2.2.1]
      refine R_wrong (k := 1) ffu (by decide) (by decide) (by omega) (fun u2 g1 g2 g4 => R_fine g4 (fun z => ?_) (fun _ => ?_))
      · simp [orf] at z
      · refine ⟨fun _ => ?_, fun z => absurd rfl z⟩
        rw [s_Vn]
        exact h u2 s (fu.trans g1) (tu.mv g1 (g2.trans tu.2.2.2.1) hsN) (fun z => by simp [orf] at z) g4
  · refine ⟨fun _ => R_fine hf (fun q => absurd q z) (fun _ => ?_), fun z => absurd rfl z⟩
    refine ⟨fun _ => ?_, fun z => absurd rfl z⟩
    rw [s_Vn]
    cases f with
    | none => exact absurd rfl z
    | some x => exact h w a (fr.refl _ _) hT (fun z => by simp [orf] at z) hf
