/-! words -/
def sLn (r : Nat) : Nat := (q_SB.getD r []).length
def sCh (r i : Nat) : Nat := ((q_SB.getD r []).getD i 0).toNatClampNeg
theorem sL_sh : ∀ r, r < 51 → ((Int32.ofNat (q_SB.getD ((1000 + r) - 1000) []).length) >>> ((0 : Int32) &&& 31)) = nI (sLn r) := by decide +kernel
theorem sL_le : ∀ r, r < 51 → sLn r ≤ 8 ∧ 0 < sLn r := by decide +kernel
theorem sC_v : ∀ r, r < 51 → ∀ i, i < sLn r → ((Int32.toUInt32 (((q_SB.getD ((1000 + r) - 1000) []).getD (Int32.toNatClampNeg (nI i)) 0) &&& 255) % 65536).toInt32) = nI (sCh r i) ∧ (narrow .char (.int (nI (sCh r i))) = .int (nI (sCh r i))) ∧ 97 ≤ sCh r i ∧ sCh r i ≤ 122 := by decide +kernel
theorem sL_of : ∀ r, r < 51 → Int32.ofNat (q_SB.getD ((1000 + r) - 1000) []).length = nI (sLn r) := by decide +kernel
theorem S_len {d r : Nat} {w : q_Sm} {Q : Int32 → q_Sm → Prop} {X : s_Xo} (hr : r < 51) (h : Q (nI (sLn r)) w) : s_EvI (d + 2) 0 mS_length w [.retAddr r] Q X := by
  apply eS_length
  unfold vS_length_0
  refine ⟨hr, by omega, hr, ?_⟩
  apply eS_coder
  unfold vS_coder_0
  refine ⟨fun z => absurd z (by decide), fun _ => ⟨hr, ?_⟩⟩
  rw [s_Ii, sL_sh r hr, s_Ii]
  exact h
theorem S_char {d r i : Nat} {w : q_Sm} {Q : Int32 → q_Sm → Prop} {X : s_Xo} (hr : r < 51) (hi : i < sLn r) (h : Q (nI (sCh r i)) w) : s_EvI (d + 4) 0 mS_charAt w [.retAddr r, .int (nI i)] Q X := by
  have hl := (sL_le r hr).1
  obtain ⟨h1, h2, h3, h4⟩ := sC_v r hr i hi
  apply eS_charAt
  unfold vS_charAt_0
  refine ⟨hr, ?_⟩
  apply eS_latin
  unfold vS_latin_0
  refine ⟨fun z => absurd z (by decide), fun _ => ⟨hr, fun z => absurd rfl z, fun _ => ?_⟩⟩
  rw [s_Ii]
  refine ⟨fun z => absurd z (by decide), fun _ => ⟨hr, ?_⟩⟩
  apply eS_at
  unfold vS_at_0
  rw [h1, sL_of r hr]
  refine ⟨by omega, ?_⟩
  apply eS_check
  unfold vS_check_0
  apply eK_check
  unfold vK_check_0
  rw [L_0, nI_ltI (by omega) (by omega), nI_ltI (by omega) (by omega), s_Ii, s_Vn, s_Ii, s_Ii]
  refine ⟨fun z => absurd z (by omega), fun _ => ⟨fun _ => ⟨by omega, ?_, h2, h2, h⟩, fun z => absurd hi z⟩⟩
  rw [show 1000 + r - 1000 = r by omega]
  exact (vp_nI (by omega)).mpr hi
def wA (N : Nat) (Y : Nat → Nat) (s r : Nat) : Prop := rn N (pL Y) s - s = sLn r ∧ ∀ i, i < sLn r → Y (s + i) = sCh r i
theorem sx_c : ∀ y, y < 256 → ∀ c, c < 123 → 97 ≤ c → (sx y = nI c ↔ y = c) := by decide +kernel
theorem K_word {d N a : Nat} {Y : Nat → Nat} {X : s_Xo} {f : Option (Nat × Nat)} {w : q_Sm} {Q : q_Sm → Prop} (hT : tC N Y a w) (hf : fC f w) (h : ∀ u, fr aTx w u → tC N Y (rn N (pL Y) (sk N Y a)) u → fC f u → u.1 2 4 = nI (sk N Y a) → Q u) : s_EvV (d + 2) 0 mX10_word w [.ref 2] Q X := by
  have h600 := hT.1
  have haN := hT.2.1
  have hsN := sk_le (Y := Y) haN
  apply eX10_word
  unfold vX10_word_0
  refine K_skipBlanks (d := d) hT hf (fun u fu tu ffu _ => ?_)
  intro w3 e3
  have t3 : tC N Y (sk N Y a) w3 := tu.mv (by rw [e3]; exact fr.wr rfl) (by rw [e3, rd_j (by decide)]; exact tu.2.2.2.1) hsN
  have f3 : fC f w3 := ffu.mv (by rw [e3, rd_j (by decide)]) (by rw [e3, rd_j (by decide)])
  have fr3 : fr aTx w w3 := by rw [e3]; exact fu.put rfl
  have s3 : w3.1 2 4 = nI (sk N Y a) := by rw [e3, rd_s]; exact tu.2.2.2.1
  clear e3
  generalize sk N Y a = s at h t3 s3 hsN
  have loop : ∀ j b (u : q_Sm), b + j = N → fr aTx w u → tC N Y b u → fC f u → u.1 2 4 = nI s → rn N (pL Y) b = rn N (pL Y) s → s_Ex (d + 2) 0 mX10_word 12 [some (.ref 2)] [] u (s_V Q) X := by
    intro j
    induction j with
    | zero =>
      intro b u hb fu tu ffu su he
      rw [rn_e (by omega)] at he
      rw [← he] at h
      apply xX10_word_12
      unfold vX10_word_12
      rw [tu.2.2.1, tu.2.2.2.1, nI_leI (by omega) (by omega), s_Vn]
      exact ⟨fun _ => h u fu tu ffu su, fun z => absurd (by omega) z⟩
    | succ j ih =>
      intro b u hb fu tu ffu su he
      have hleb : ¬ (u.1 2 2 ≤ u.1 2 3) := by
        rw [tu.2.2.1, tu.2.2.2.1, nI_leI (by omega) (by omega)]
        omega
      apply xX10_word_12
      unfold vX10_word_12
      refine ⟨fun z => absurd z hleb, fun _ => K_peek tu (K_isLetter tu.by ?_)⟩
      rw [letV]
      by_cases q2 : b < N ∧ pL Y b = true
      · rw [if_pos q2]
        refine ⟨fun z => absurd z (by decide), fun _ => ?_⟩
        intro w6 e6
        rw [tu.2.2.2.1, nI_1 b] at e6
        have f6 : fr aTx u w6 := by rw [e6]; exact fr.wr rfl
        rw [rn_y q2.1 q2.2] at he
        exact ih (b + 1) w6 (by omega) (fu.trans f6) (tu.mv f6 (by rw [e6, rd_s]) (by omega)) (ffu.mv (by rw [e6, rd_j (by decide)]) (by rw [e6, rd_j (by decide)])) (by rw [e6, rd_j (by decide)]; exact su) he
      · rw [if_neg q2]
        have hp : pL Y b = false := by
          cases z : pL Y b with
          | false => rfl
          | true => exact absurd ⟨by omega, z⟩ q2
        rw [rn_x (by omega) hp] at he
        rw [← he] at h
        rw [s_Vn]
        exact ⟨fun _ => h u fu tu ffu su, fun z => absurd rfl z⟩
  exact loop (N - s) s w3 (by omega) fr3 t3 f3 s3 rfl
theorem K_was {d N s r : Nat} {Y : Nat → Nat} {X : s_Xo} {w : q_Sm} {Q : Int32 → q_Sm → Prop} (hr : r < 51) (hs : s ≤ N) (hT : tC N Y (rn N (pL Y) s) w) (h4 : w.1 2 4 = nI s) (h1 : wA N Y s r → Q 1 w) (h0 : ¬ wA N Y s r → Q 0 w) : s_EvI (d + 5) 0 mX10_was w [.ref 2, .retAddr r] Q X := by
  have h600 := hT.1
  have hge := (rn_b (N := N) (p := pL Y) hs).1
  have hle := (rn_b (N := N) (p := pL Y) hs).2.1
  have hl := (sL_le r hr).1
  apply eX10_was
  unfold vX10_was_0
  refine ⟨hr, S_len hr ?_⟩
  rw [hT.2.2.2.1, h4, pk_sub (by omega), nI_eq (by omega) (by omega), s_Ii]
  refine ⟨fun z => ?_, fun z => h0 (fun q => z q.1)⟩
  have loop : ∀ j i, i + j = sLn r → (∀ k, k < i → Y (s + k) = sCh r k) → s_Ex (d + 5) 0 mX10_was 20 [some (.ref 2), some (.retAddr r), some (.int (nI i))] [] w (s_I Q) X := by
    intro j
    induction j with
    | zero =>
      intro i hi hk
      have hi : i = sLn r := by omega
      subst hi
      apply xX10_was_20
      unfold vX10_was_20
      refine ⟨hr, S_len hr ?_⟩
      rw [nI_leI (by omega) (by omega), s_Ii]
      exact ⟨fun _ => h1 ⟨z, hk⟩, fun z => absurd (by omega) z⟩
    | succ j ih =>
      intro i hi hk
      obtain ⟨_, _, h3, h5⟩ := sC_v r hr i (by omega)
      obtain ⟨hy, hby⟩ := hT.2.2.2.2 (s + i) (by omega)
      apply xX10_was_20
      unfold vX10_was_20
      refine ⟨hr, S_len hr ?_⟩
      rw [nI_leI (by omega) (by omega), h4, nI_add, nI_clamp (by omega)]
      refine ⟨fun z => absurd z (by omega), fun _ => ⟨(vp_nI (by omega)).mpr (by omega), hr, S_char hr (by omega) ?_⟩⟩
      rw [hby, sx_c _ hy _ (by omega) h3, s_Ii, nI_1 i]
      refine ⟨fun q => ih (i + 1) (by omega) (fun k hk2 => ?_), fun q => h0 (fun q2 => q (q2.2 i (by omega)))⟩
      by_cases e : k = i
      · rw [e]; exact q
      · exact hk k (by omega)
  exact loop (sLn r) 0 (by omega) (fun k hk => absurd hk (by omega))
