/-! words and colours of the reference -/
def sW (r : Nat) : Nat := wV (sCh r) 0 (sLn r)
theorem sW_b {r : Nat} (hr : r < 51) : ∀ i, i < sLn r → 97 ≤ sCh r (0 + i) ∧ sCh r (0 + i) ≤ 122 := by
  intro i hi
  rw [Nat.zero_add]
  exact (sC_v r hr i hi).2.2
theorem R_of {d r : Nat} {w : q_Sm} {Q : Int32 → q_Sm → Prop} {X : s_Xo} (hr : r < 51) (h6 : sLn r ≤ 6) (h : Q (nI (sW r)) w) : s_EvI (d + 5) 0 mX12_of w [.retAddr r] Q X := by
  have loop : ∀ j i, i + j = sLn r → s_Ex (d + 5) 0 mX12_of 4 [some (.retAddr r), some (.int (nI (wV (sCh r) 0 i))), some (.int (nI i))] [] w (s_I Q) X := by
    intro j
    induction j with
    | zero =>
      intro i hi
      have hi : i = sLn r := by omega
      subst hi
      apply xX12_of_4
      unfold vX12_of_4
      refine ⟨hr, S_len hr ?_⟩
      rw [nI_leI (by omega) (by omega), s_Ii]
      exact ⟨fun _ => h, fun z => absurd (by omega) z⟩
    | succ j ih =>
      intro i hi
      obtain ⟨_, _, h3, h5⟩ := sC_v r hr i (by omega)
      have hb := (wV_b (Y := sCh r) (s := 0) i (fun k hk => sW_b hr k (by omega))).1
      have hp : 32 ^ i ≤ 32 ^ 5 := Nat.pow_le_pow_right (by omega) (by omega)
      have hq : (32 : Nat) ^ 5 = 2 ^ 25 := by decide
      have next := ih (i + 1) (by omega)
      rw [show wV (sCh r) 0 (i + 1) = wV (sCh r) 0 i * 32 + (sCh r (0 + i) - 96) from rfl, Nat.zero_add] at next
      apply xX12_of_4
      unfold vX12_of_4
      refine ⟨hr, S_len hr ?_⟩
      rw [nI_leI (by omega) (by omega)]
      refine ⟨fun z => absurd z (by omega), fun _ => ⟨hr, S_char hr (by omega) ?_⟩⟩
      rw [L_96, pk_sub (by omega), sh5 (by omega) (by omega), nI_1 i]
      exact next
  apply eX12_of
  unfold vX12_of_0
  exact loop (sLn r) 0 (by omega)
def wv6 (N : Nat) (Y : Nat → Nat) (s : Nat) : Nat := if rn N (pL Y) s - s ≤ 6 then wV Y s (rn N (pL Y) s - s) else 0
theorem run_l {N s : Nat} {Y : Nat → Nat} (hs : s ≤ N) : ∀ i, i < rn N (pL Y) s - s → 97 ≤ Y (s + i) ∧ Y (s + i) ≤ 122 := fun i hi => of_decide_eq_true ((rn_b (N := N) (p := pL Y) hs).2.2.1 (s + i) (by omega) (by omega))
theorem wv6_eq {N s r : Nat} {Y : Nat → Nat} (hs : s ≤ N) (hr : r < 51) (h6 : sLn r ≤ 6) : wv6 N Y s = sW r ↔ wA N Y s r := by
  unfold wv6 sW wA
  have hl := run_l (Y := Y) hs
  by_cases q : rn N (pL Y) s - s ≤ 6
  · rw [if_pos q, wV_eq _ _ hl (sW_b hr)]
    constructor
    · rintro ⟨h1, h2⟩
      exact ⟨h1, fun i hi => by have := h2 i hi; rw [Nat.zero_add] at this; exact this⟩
    · rintro ⟨h1, h2⟩
      exact ⟨h1, fun i hi => by rw [Nat.zero_add]; exact h2 i hi⟩
  · rw [if_neg q]
    have := (wV_b (Y := sCh r) (s := 0) (sLn r) (sW_b hr)).2 (sL_le r hr).2
    exact ⟨fun z => by omega, fun z => by omega⟩
theorem wv6_lt {N s : Nat} {Y : Nat → Nat} (hs : s ≤ N) : wv6 N Y s < 2 ^ 30 := by
  unfold wv6
  split
  · rename_i q
    have h1 := (wV_b _ (run_l (Y := Y) hs)).1
    have h2 : 32 ^ (rn N (pL Y) s - s) ≤ 32 ^ 6 := Nat.pow_le_pow_right (by omega) q
    have h3 : (32 : Nat) ^ 6 = 2 ^ 30 := by decide
    omega
  · decide
theorem sW_lt {r : Nat} (hr : r < 51) (h6 : sLn r ≤ 6) : sW r < 2 ^ 30 := by
  have h1 := (wV_b _ (sW_b hr)).1
  have h2 : 32 ^ sLn r ≤ 32 ^ 6 := Nat.pow_le_pow_right (by omega) h6
  have h3 : (32 : Nat) ^ 6 = 2 ^ 30 := by decide
  unfold sW
  omega
theorem R_word {d N a : Nat} {Y : Nat → Nat} {X : s_Xo} {f : Option (Nat × Nat)} {w : q_Sm} {Q : Int32 → q_Sm → Prop} (hT : tR N Y a w) (hf : fR f w) (h : ∀ u, fr aRx w u → tR N Y (sk N Y a) u → fR f u → Q (nI (wv6 N Y (sk N Y a))) u) : s_EvI (d + 2) 0 mX12_word w [.ref 79] Q X := by
  have h600 := hT.1
  have haN := hT.2.1
  have hsN := sk_le (Y := Y) haN
  apply eX12_word
  unfold vX12_word_0
  refine R_here hT hf (fun u fu tu ffu => ?_)
  have hQ := h u fu tu ffu
  generalize sk N Y a = s at hQ tu hsN
  have hle := (rn_b (N := N) (p := pL Y) hsN).2.1
  have hge := (rn_b (N := N) (p := pL Y) hsN).1
  have hl := run_l (Y := Y) hsN
  unfold wv6 at hQ
  rw [tu.2.2.2.1]
  have fin : ∀ n v, n = rn N (pL Y) s - s → (n ≤ 6 → v = wV Y s n) → (n > 6 → v = 0) → (nI n ≤ 6 → s_I Q (some (.int (nI v))) u) ∧ (¬ nI n ≤ 6 → s_I Q (some (.int 0)) u) := by
    intro n v hn h1 h2
    rw [L_6, nI_leI (by omega) (by omega), s_Ii, s_Ii]
    rw [← hn] at hQ
    refine ⟨fun z => ?_, fun z => ?_⟩
    · rw [if_pos z, ← h1 z] at hQ; exact hQ
    · rw [if_neg z] at hQ; exact hQ
  have loop : ∀ j n v, s + n + j = N → n ≤ rn N (pL Y) s - s → rn N (pL Y) (s + n) = rn N (pL Y) s → (n ≤ 6 → v = wV Y s n) → (n > 6 → v = 0) → s_Ex (d + 2) 0 mX12_word 14 [some (.ref 79), some (.int (nI v)), some (.int (nI n)), some (.int (nI (s + n)))] [] u (s_I Q) X := by
    intro j
    induction j with
    | zero =>
      intro n v hn hnl he h1 h2
      rw [rn_e (by omega)] at he
      apply xX12_word_14
      unfold vX12_word_14
      rw [tu.2.2.1, nI_leI (by omega) (by omega)]
      exact ⟨fun _ => fin n v (by omega) h1 h2, fun z => absurd (by omega) z⟩
    | succ j ih =>
      intro n v hn hnl he h1 h2
      obtain ⟨hyb, hby⟩ := tu.2.2.2.2 (s + n) (by omega)
      have hin : vp_in (nI (s + n)) 600 := (vp_nI (by omega)).mpr (by omega)
      apply xX12_word_14
      unfold vX12_word_14
      rw [tu.2.2.1, nI_leI (by omega) (by omega), nI_clamp (by omega), hby]
      refine ⟨fun z => absurd z (by omega), fun _ => ⟨hin, R_isSmall hyb ?_⟩⟩
      by_cases q : 97 ≤ Y (s + n) ∧ Y (s + n) ≤ 122
      · rw [if_pos q]
        rw [rn_y (by omega) (decide_eq_true q)] at he
        have hge2 := (rn_b (N := N) (p := pL Y) (a := s + n + 1) (by omega)).1
        refine ⟨fun z => absurd z (by decide), fun _ => ?_⟩
        rw [hby, nI_1 n, nI_1 (s + n), L_6, nI_leI (by omega) (by omega)]
        refine ⟨fun z => ih (n + 1) 0 (by omega) (by omega) he (fun z2 => by omega) (fun _ => rfl), fun z => ⟨hin, ?_⟩⟩
        have hv := h1 (by omega)
        have hb := (wV_b (Y := Y) (s := s) n (fun k hk => hl k (by omega))).1
        have hp : 32 ^ n ≤ 32 ^ 5 := Nat.pow_le_pow_right (by omega) (by omega)
        have hq : (32 : Nat) ^ 5 = 2 ^ 25 := by decide
        rw [L_96, pk_sub (by omega), sh5 (by omega) (by omega)]
        exact ih (n + 1) _ (by omega) (by omega) he (fun _ => by rw [hv]; rfl) (fun z2 => by omega)
      · rw [if_neg q]
        rw [rn_x (by omega) (decide_eq_false q)] at he
        exact ⟨fun _ => fin n v (by omega) h1 h2, fun z => absurd rfl z⟩
  exact loop (N - s) 0 0 (by omega) (by omega) rfl (fun _ => rfl) (fun _ => rfl)
theorem R_pass {d N : Nat} {Y : Nat → Nat} {X : s_Xo} {f : Option (Nat × Nat)} : ∀ j a (w : q_Sm) (Q : q_Sm → Prop), a + j = N → tR N Y a w → fR f w → (∀ u, fr aRx w u → tR N Y (rn N (pL Y) a) u → fR f u → Q u) → s_EvV (d + 2) 0 mX12_pass w [.ref 79] Q X := by
  intro j a w Q hj hT hf h
  have loop : ∀ j a (w : q_Sm), a + j = N → tR N Y a w → fR f w → (∀ u, fr aRx w u → tR N Y (rn N (pL Y) a) u → fR f u → Q u) → s_Ex (d + 2) 0 mX12_pass 0 [some (.ref 79)] [] w (s_V Q) X := by
    intro j
    induction j with
    | zero =>
      intro a w hj hT hf h
      have h600 := hT.1
      rw [rn_e (by omega)] at h
      apply xX12_pass_0
      unfold vX12_pass_0
      rw [hT.2.2.1, hT.2.2.2.1, nI_leI (by omega) (by omega), s_Vn]
      exact ⟨fun _ => h w (fr.refl _ _) hT hf, fun z => absurd (by omega) z⟩
    | succ j ih =>
      intro a w hj hT hf h
      have h600 := hT.1
      obtain ⟨hy, hby⟩ := hT.2.2.2.2 a (by omega)
      apply xX12_pass_0
      unfold vX12_pass_0
      rw [hT.2.2.1, hT.2.2.2.1, nI_leI (by omega) (by omega), nI_clamp (by omega), hby]
      refine ⟨fun z => absurd z (by omega), fun _ => ⟨(vp_nI (by omega)).mpr (by omega), R_isSmall hy ?_⟩⟩
      by_cases q : 97 ≤ Y a ∧ Y a ≤ 122
      · rw [if_pos q]
        rw [rn_y (by omega) (decide_eq_true q)] at h
        refine ⟨fun z => absurd z (by decide), fun _ => ?_⟩
        rw [hT.2.2.2.1, nI_1 a]
        rintro _ rfl
        have f1 : fr aRx w (q_wI w 79 4 (nI (a + 1))) := fr.wr rfl
        exact ih (a + 1) _ (by omega) (hT.mv f1 rd_s (by omega)) (hf.mv (rd_j (by decide)) (rd_j (by decide))) (fun u fu tu ffu => h u (f1.trans fu) tu ffu)
      · rw [if_neg q]
        rw [rn_x (by omega) (decide_eq_false q)] at h
        rw [s_Vn]
        exact ⟨fun _ => h w (fr.refl _ _) hT hf, fun z => absurd rfl z⟩
  exact s_of (by decide +kernel) rfl (Nat.le_of_ble_eq_true rfl) (loop j a w hj hT hf h)
