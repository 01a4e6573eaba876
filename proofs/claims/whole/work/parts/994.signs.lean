/-! colours and signs -/
noncomputable def cW (N : Nat) (Y : Nat → Nat) (s : Nat) : Option Nat := @ite _ (wA N Y s 2) (Classical.propDecidable _) (some 0) (@ite _ (wA N Y s 3) (Classical.propDecidable _) (some 1) (@ite _ (wA N Y s 4) (Classical.propDecidable _) (some 2) (@ite _ (wA N Y s 5) (Classical.propDecidable _) (some 3) none)))
noncomputable def col (N : Nat) (Y : Nat → Nat) (a : Nat) : Option (Nat × Nat) × Nat × Nat := match cW N Y (sk N Y a) with
  | some k => (none, k, rn N (pL Y) (sk N Y a))
  | none => (some (1, sk N Y a), 3, rn N (pL Y) (sk N Y a))
def sig (N : Nat) (Y : Nat → Nat) (c a : Nat) : Option (Nat × Nat) × Nat := if sk N Y a < N ∧ Y (sk N Y a) = c then (none, sk N Y a + 1) else (some (1, sk N Y a), sk N Y a)
theorem orf_n (g : Option (Nat × Nat)) : orf g none = g := by cases g <;> rfl
theorem K_colour {d N a : Nat} {Y : Nat → Nat} {X : s_Xo} {f : Option (Nat × Nat)} {w : q_Sm} {Q : Int32 → q_Sm → Prop} (hT : tC N Y a w) (hf : fC f w) (h : ∀ u, fr aTx w u → tC N Y (col N Y a).2.2 u → fC (orf f (col N Y a).1) u → u.1 2 4 = nI (sk N Y a) → Q (nI (col N Y a).2.1) u) : s_EvI (d + 6) 0 mX10_colour w [.ref 2] Q X := by
  have h600 := hT.1
  have haN := hT.2.1
  have hsN := sk_le (Y := Y) haN
  have hle := (rn_b (N := N) (p := pL Y) hsN).2.1
  unfold col at h
  apply eX10_colour
  unfold vX10_colour_0
  refine K_word (d := d + 3) hT hf (fun u fu tu ffu su => ?_)
  generalize sk N Y a = s at h tu su hsN hle
  unfold cW at h
  refine K_was (d := d) (by decide) hsN tu su (fun z => ?_) (fun z => ?_)
  · rw [@if_pos _ (Classical.propDecidable _) z] at h
    rw [s_Ii]
    exact ⟨fun z => absurd z (by decide), fun _ => h u fu tu (by show fC (orf f none) u; rw [orf_n]; exact ffu) su⟩
  · rw [@if_neg _ (Classical.propDecidable _) z] at h
    refine ⟨fun _ => ?_, fun z => absurd rfl z⟩
    refine K_was (d := d) (by decide) hsN tu su (fun z => ?_) (fun z => ?_)
    · rw [@if_pos _ (Classical.propDecidable _) z] at h
      rw [s_Ii]
      exact ⟨fun z => absurd z (by decide), fun _ => h u fu tu (by show fC (orf f none) u; rw [orf_n]; exact ffu) su⟩
    · rw [@if_neg _ (Classical.propDecidable _) z] at h
      refine ⟨fun _ => ?_, fun z => absurd rfl z⟩
      refine K_was (d := d) (by decide) hsN tu su (fun z => ?_) (fun z => ?_)
      · rw [@if_pos _ (Classical.propDecidable _) z] at h
        rw [s_Ii]
        exact ⟨fun z => absurd z (by decide), fun _ => h u fu tu (by show fC (orf f none) u; rw [orf_n]; exact ffu) su⟩
      · rw [@if_neg _ (Classical.propDecidable _) z] at h
        refine ⟨fun _ => ?_, fun z => absurd rfl z⟩
        refine K_was (d := d) (by decide) hsN tu su (fun z => ?_) (fun z => ?_)
        · rw [@if_pos _ (Classical.propDecidable _) z] at h
          rw [s_Ii]
          exact ⟨fun _ => h u fu tu (by show fC (orf f none) u; rw [orf_n]; exact ffu) su, fun z => absurd (by decide) z⟩
        · rw [@if_neg _ (Classical.propDecidable _) z] at h
          refine ⟨fun z => absurd rfl z, fun _ => ?_⟩
          rw [su]
          refine K_blame (k := 1) ffu (by decide) (by decide) (by omega) (fun u2 g1 g2 g3 g4 => ?_)
          rw [s_Ii]
          exact h u2 (fu.trans g1) (tu.mv g1 (g2.trans tu.2.2.2.1) hle) g4 (g3.trans su)
theorem K_need {d N a c : Nat} {Y : Nat → Nat} {X : s_Xo} {f : Option (Nat × Nat)} {w : q_Sm} {Q : q_Sm → Prop} (hc : c < 256) (hT : tC N Y a w) (hf : fC f w) (h : ∀ u a', fr aTx w u → tC N Y a' u → (f = none → a' = (sig N Y c a).2) → fC (orf f (sig N Y c a).1) u → Q u) : s_EvV (d + 3) 0 mX10_need w [.ref 2, .int (nI c)] Q X := by
  have h600 := hT.1
  have haN := hT.2.1
  have hsN := sk_le (Y := Y) haN
  unfold sig at h
  apply eX10_need
  unfold vX10_need_0
  apply eX10_takes
  unfold vX10_takes_0
  refine K_skipBlanks hT hf (fun u fu tu ffu _ => ?_)
  generalize sk N Y a = s at h tu hsN
  rw [fC_5 ffu]
  have bad : (f = none → ¬ (s < N ∧ Y s = c)) → s_EvV (d + 2) 0 mX10_blame u [.ref 2, .int 1, .int (u.1 2 3)] (fun u4 => s_V Q none u4) X := by
    intro q
    rw [tu.2.2.2.1]
    refine K_blame (k := 1) (d := d + 1) ffu (by decide) (by decide) (by omega) (fun u2 g1 g2 g3 g4 => ?_)
    rw [s_Vn]
    have t2 := tu.mv g1 (g2.trans tu.2.2.2.1) hsN
    cases f with
    | none =>
      rw [if_neg (q rfl)] at h
      exact h u2 s (fu.trans g1) t2 (fun _ => rfl) g4
    | some x => exact h u2 s (fu.trans g1) t2 (fun z => by simp at z) g4
  refine ⟨fun z => ?_, fun z => ?_⟩
  · rw [s_Ii]
    exact ⟨fun z => absurd rfl z, fun _ => bad (fun q => absurd q z)⟩
  · have z := Classical.not_not.mp z
    refine K_peek tu ?_
    unfold pkA
    by_cases q : s < N
    · rw [if_pos q, oI_s]
      have hy := (tu.2.2.2.2 s q).1
      rw [nI_eq (by omega) (by omega)]
      refine ⟨fun z2 => ?_, fun z2 => ?_⟩
      · rintro _ rfl _ rfl
        rw [s_Ii]
        refine ⟨fun _ => ?_, fun z => absurd (by decide) z⟩
        rw [if_pos ⟨q, z2⟩] at h
        rw [s_Vn]
        have f6 : fr aTx u (q_wI (q_wI u 2 4 (u.1 2 3)) 2 3 ((q_wI u 2 4 (u.1 2 3)).1 2 3 + 1)) := (fr.wr rfl).put rfl
        refine h _ (s + 1) (fu.trans f6) (tu.mv f6 ?_ (by omega)) (fun _ => rfl) ?_
        · rw [rd_s, rd_j (by decide), tu.2.2.2.1, nI_1 s]
        · show fC (orf f none) _
          rw [orf_n]
          exact ffu.mv (by rw [rd_j (by decide), rd_j (by decide)]) (by rw [rd_j (by decide), rd_j (by decide)])
      · rw [s_Ii]
        exact ⟨fun z => absurd rfl z, fun _ => bad (fun _ q2 => z2 q2.2)⟩
    · rw [if_neg q]
      refine ⟨fun z2 => ((oI_n (show c < 2 ^ 31 by omega)).mp z2.symm).elim, fun _ => ?_⟩
      rw [s_Ii]
      exact ⟨fun z => absurd rfl z, fun _ => bad (fun _ q2 => q q2.1)⟩
theorem K_goesOn {d N a : Nat} {Y : Nat → Nat} {X : s_Xo} {f : Option (Nat × Nat)} {w : q_Sm} {Q : Int32 → q_Sm → Prop} (hT : tC N Y a w) (hf : fC f w) (h1 : ∀ u, fr aTx w u → tC N Y (sk N Y a) u → fC f u → f = none → sk N Y a < N → Q 1 u) (h0 : ∀ u, fr aTx w u → tC N Y (sk N Y a) u → fC f u → (f = none → ¬ sk N Y a < N) → Q 0 u) : s_EvI (d + 2) 0 mX10_goesOn w [.ref 2] Q X := by
  have h600 := hT.1
  have haN := hT.2.1
  have hsN := sk_le (Y := Y) haN
  apply eX10_goesOn
  unfold vX10_goesOn_0
  refine K_skipBlanks hT hf (fun u fu tu ffu _ => ?_)
  rw [fC_5 ffu, tu.2.2.1, tu.2.2.2.1, nI_leI (by omega) (by omega), s_Ii, s_Ii]
  exact ⟨fun z => h0 u fu tu ffu (fun q => absurd q z), fun z => ⟨fun z2 => h0 u fu tu ffu (fun _ => by omega), fun z2 => h1 u fu tu ffu (Classical.not_not.mp z) (by omega)⟩⟩
