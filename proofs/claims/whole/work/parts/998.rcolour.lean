/-! colours of the reference -/
theorem wA_c {N s : Nat} {Y : Nat → Nat} {r r' : Nat} (h : sLn r = sLn r' ∧ ∀ i, i < sLn r → sCh r i = sCh r' i) : wA N Y s r ↔ wA N Y s r' := by
  unfold wA
  rw [h.1]
  constructor
  · rintro ⟨h1, h2⟩
    exact ⟨h1, fun i hi => by rw [← h.2 i (by omega)]; exact h2 i hi⟩
  · rintro ⟨h1, h2⟩
    exact ⟨h1, fun i hi => by rw [h.2 i (by omega)]; exact h2 i hi⟩
theorem col_35 : sLn 35 = sLn 2 ∧ ∀ i, i < sLn 35 → sCh 35 i = sCh 2 i := by decide +kernel
theorem col_36 : sLn 36 = sLn 3 ∧ ∀ i, i < sLn 36 → sCh 36 i = sCh 3 i := by decide +kernel
theorem col_37 : sLn 37 = sLn 4 ∧ ∀ i, i < sLn 37 → sCh 37 i = sCh 4 i := by decide +kernel
theorem col_38 : sLn 38 = sLn 5 ∧ ∀ i, i < sLn 38 → sCh 38 i = sCh 5 i := by decide +kernel
theorem cW_le {N s k : Nat} {Y : Nat → Nat} (h : cW N Y s = some k) : k < 4 := by
  unfold cW at h
  by_cases z : wA N Y s 2
  · rw [@if_pos _ (Classical.propDecidable _) z] at h; simp at h; omega
  · rw [@if_neg _ (Classical.propDecidable _) z] at h
    by_cases z : wA N Y s 3
    · rw [@if_pos _ (Classical.propDecidable _) z] at h; simp at h; omega
    · rw [@if_neg _ (Classical.propDecidable _) z] at h
      by_cases z : wA N Y s 4
      · rw [@if_pos _ (Classical.propDecidable _) z] at h; simp at h; omega
      · rw [@if_neg _ (Classical.propDecidable _) z] at h
        by_cases z : wA N Y s 5
        · rw [@if_pos _ (Classical.propDecidable _) z] at h; simp at h; omega
        · rw [@if_neg _ (Classical.propDecidable _) z] at h; simp at h
theorem R_colourHere {d N a : Nat} {Y : Nat → Nat} {X : s_Xo} {f : Option (Nat × Nat)} {w : q_Sm} {Q : Int32 → q_Sm → Prop} (hT : tR N Y a w) (hf : fR f w) (h : ∀ u, fr aRx w u → tR N Y (sk N Y a) u → fR f u → Q (oI (cW N Y (sk N Y a))) u) : s_EvI (d + 6) 0 mX12_colourHere w [.ref 79] Q X := by
  have hsN := sk_le (Y := Y) hT.2.1
  apply eX12_colourHere
  unfold vX12_colourHere_0
  refine R_word hT hf (fun u fu tu ffu => ?_)
  have hQ := h u fu tu ffu
  generalize sk N Y a = s at hQ tu hsN
  have hw := wv6_lt (Y := Y) hsN
  unfold cW at hQ
  have l35 : sLn 35 ≤ 6 := by decide
  have l36 : sLn 36 ≤ 6 := by decide
  have l37 : sLn 37 ≤ 6 := by decide
  have l38 : sLn 38 ≤ 6 := by decide
  have b35 := sW_lt (r := 35) (by decide) l35
  have b36 := sW_lt (r := 36) (by decide) l36
  have b37 := sW_lt (r := 37) (by decide) l37
  have b38 := sW_lt (r := 38) (by decide) l38
  refine R_of (r := 35) (by decide) l35 ?_
  rw [nI_eq (by omega) (by omega), wv6_eq hsN (by decide) l35, wA_c col_35, s_Ii]
  refine ⟨fun z => ?_, fun z => ?_⟩
  · rw [@if_neg _ (Classical.propDecidable _) z] at hQ
    refine R_of (r := 36) (by decide) l36 ?_
    rw [nI_eq (by omega) (by omega), wv6_eq hsN (by decide) l36, wA_c col_36, s_Ii]
    refine ⟨fun z => ?_, fun z => ?_⟩
    · rw [@if_neg _ (Classical.propDecidable _) z] at hQ
      refine R_of (r := 37) (by decide) l37 ?_
      rw [nI_eq (by omega) (by omega), wv6_eq hsN (by decide) l37, wA_c col_37, s_Ii]
      refine ⟨fun z => ?_, fun z => ?_⟩
      · rw [@if_neg _ (Classical.propDecidable _) z] at hQ
        refine R_of (r := 38) (by decide) l38 ?_
        rw [nI_eq (by omega) (by omega), wv6_eq hsN (by decide) l38, wA_c col_38, s_Ii, s_Ii]
        refine ⟨fun z => ?_, fun z => ?_⟩
        · rw [@if_neg _ (Classical.propDecidable _) z] at hQ
          exact hQ
        · rw [@if_pos _ (Classical.propDecidable _) (Classical.not_not.mp z)] at hQ
          exact hQ
      · rw [@if_pos _ (Classical.propDecidable _) (Classical.not_not.mp z)] at hQ
        exact hQ
    · rw [@if_pos _ (Classical.propDecidable _) (Classical.not_not.mp z)] at hQ
      exact hQ
  · rw [@if_pos _ (Classical.propDecidable _) (Classical.not_not.mp z)] at hQ
    exact hQ
theorem R_readColour {d N a : Nat} {Y : Nat → Nat} {X : s_Xo} {f : Option (Nat × Nat)} {w : q_Sm} {Q : Int32 → q_Sm → Prop} (hT : tR N Y a w) (hf : fR f w) (h : ∀ u a' v, fr aRx w u → tR N Y a' u → fR (orf f (col N Y a).1) u → (orf f (col N Y a).1 = none → a' = (col N Y a).2.2 ∧ v = nI (col N Y a).2.1) → Q v u) : s_EvI (d + 7) 0 mX12_readColour w [.ref 79] Q X := by
  have h600 := hT.1
  have hsN := sk_le (Y := Y) hT.2.1
  unfold col at h
  apply eX12_readColour
  unfold vX12_readColour_0
  refine R_fine hf (fun z => ?_) (fun z => ?_)
  rotate_left
  · refine ⟨fun z => absurd rfl z, fun _ => ?_⟩
    rw [s_Ii]
    cases f with
    | none => exact absurd rfl z
    | some x => exact h w a 0 (fr.refl _ _) hT hf (fun z => by simp [orf] at z)
  subst z
  refine ⟨fun _ => R_colourHere hT hf (fun u fu tu ffu => ?_), fun z => absurd (by decide) z⟩
  generalize sk N Y a = s at h tu hsN
  cases hc : cW N Y s with
  | none =>
    rw [hc] at h
    refine ⟨fun z => absurd rfl z, fun _ => ?_⟩
    rw [tu.2.2.2.1]
    refine R_wrong (k := 1) ffu (by decide) (by decide) (by omega) (fun u2 g1 g2 g4 => R_fine g4 (fun z => ?_) (fun _ => ?_))
    · simp [orf] at z
    · refine ⟨fun z => absurd rfl z, fun _ => ?_⟩
      rw [s_Ii]
      exact h u2 s 0 (fu.trans g1) (tu.mv g1 (g2.trans tu.2.2.2.1) hsN) g4 (fun z => by simp [orf] at z)
  | some k =>
    rw [hc] at h
    have hk := cW_le hc
    refine ⟨fun _ => R_fine ffu (fun _ => ?_) (fun z => absurd rfl z), fun z => absurd (fun y => (oI_n (show k < 2 ^ 31 by omega)).mp y) z⟩
    refine ⟨fun _ => R_pass (d := d + 4) (N - s) s u _ (by omega) tu ffu (fun u2 g1 g2 g3 => ?_), fun z => absurd (by decide) z⟩
    rw [s_Ii]
    exact h u2 _ _ (fu.trans g1) g2 g3 (fun _ => ⟨rfl, rfl⟩)
