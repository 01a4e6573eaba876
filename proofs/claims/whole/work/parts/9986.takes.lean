/-! signs that may stand (for the law's text) -/
theorem K_takes {d N a c : Nat} {Y : Nat → Nat} {X : s_Xo} {f : Option (Nat × Nat)} {w : q_Sm} {Q : Int32 → q_Sm → Prop} (hc : c < 256) (hT : tC N Y a w) (hf : fC f w)
    (h1 : f = none → sk N Y a < N → Y (sk N Y a) = c → ∀ u, fr aTx w u → tC N Y (sk N Y a + 1) u → fC none u → Q 1 u)
    (h0 : (f = none → ¬ (sk N Y a < N ∧ Y (sk N Y a) = c)) → ∀ u, fr aTx w u → tC N Y (sk N Y a) u → fC f u → Q 0 u) : s_EvI (d + 2) 0 mX10_takes w [.ref 2, .int (nI c)] Q X := by
  have h600 := hT.1
  have hsN := sk_le (Y := Y) hT.2.1
  apply eX10_takes
  unfold vX10_takes_0
  refine K_skipBlanks hT hf (fun u fu tu ffu _ => ?_)
  generalize sk N Y a = s at h1 h0 tu hsN
  rw [fC_5 ffu]
  refine ⟨fun z => ?_, fun z => ?_⟩
  · rw [s_Ii]
    exact h0 (fun q => absurd q z) u fu tu ffu
  · have z := Classical.not_not.mp z
    refine K_peek tu ?_
    unfold pkA
    by_cases q : s < N
    · rw [if_pos q, oI_s]
      have hy := (tu.2.2.2.2 s q).1
      rw [nI_eq (by omega) (by omega)]
      refine ⟨fun z2 => ?_, fun z2 => ?_⟩
      · rintro _ rfl _ rfl
        rw [s_Ii]
        have f6 : fr aTx u (q_wI (q_wI u 2 4 (u.1 2 3)) 2 3 ((q_wI u 2 4 (u.1 2 3)).1 2 3 + 1)) := (fr.wr rfl).put rfl
        subst z
        refine h1 rfl q z2 _ (fu.trans f6) (tu.mv f6 ?_ (by omega)) (ffu.mv ?_ ?_)
        · rw [rd_s, rd_j (by decide), tu.2.2.2.1, nI_1 s]
        · rw [rd_j (by decide), rd_j (by decide)]
        · rw [rd_j (by decide), rd_j (by decide)]
      · rw [s_Ii]
        exact h0 (fun _ y => z2 y.2) u fu tu ffu
    · rw [if_neg q]
      refine ⟨fun z2 => ((oI_n (show c < 2 ^ 31 by omega)).mp z2.symm).elim, fun _ => ?_⟩
      rw [s_Ii]
      exact h0 (fun _ y => q y.1) u fu tu ffu
theorem K_isAtDigit {d N a : Nat} {Y : Nat → Nat} {X : s_Xo} {f : Option (Nat × Nat)} {w : q_Sm} {Q : Int32 → q_Sm → Prop} (hT : tC N Y a w) (hf : fC f w)
    (h : ∀ u, fr aTx w u → tC N Y (sk N Y a) u → fC f u → Q (nI (if sk N Y a < N ∧ pD Y (sk N Y a) = true then 1 else 0)) u) : s_EvI (d + 2) 0 mX10_isAtDigit w [.ref 2] Q X := by
  apply eX10_isAtDigit
  unfold vX10_isAtDigit_0
  refine K_skipBlanks hT hf (fun u fu tu ffu _ => K_peek tu (K_isDigit tu.by ?_))
  rw [digV, s_Ii]
  refine ⟨?_, h u fu tu ffu⟩
  split <;> rfl
theorem K_needEnd {d N a : Nat} {Y : Nat → Nat} {X : s_Xo} {f : Option (Nat × Nat)} {w : q_Sm} {Q : q_Sm → Prop} (hT : tC N Y a w) (hf : fC f w)
    (h : ∀ u, fr aTx w u → tC N Y (sk N Y a) u → fC (orf f (if sk N Y a < N then some (1, sk N Y a) else none)) u → Q u) : s_EvV (d + 2) 0 mX10_needEnd w [.ref 2] Q X := by
  have h600 := hT.1
  have hsN := sk_le (Y := Y) hT.2.1
  apply eX10_needEnd
  unfold vX10_needEnd_0
  refine K_skipBlanks hT hf (fun u fu tu ffu _ => ?_)
  rw [tu.2.2.1, tu.2.2.2.1, nI_leI (by omega) (by omega), s_Vn]
  refine ⟨fun z => ?_, fun z => ?_⟩
  · rw [if_neg (by omega), orf_n] at h
    exact h u fu tu ffu
  · rw [if_pos (by omega)] at h
    refine K_blame (k := 1) ffu (by decide) (by decide) (by omega) (fun u2 g1 g2 g3 g4 => ?_)
    rw [s_Vn]
    exact h u2 (fu.trans g1) (tu.mv g1 (g2.trans tu.2.2.2.1) hsN) g4
