/-! the law's text: what comes out, class and reference at once -/
theorem L_42 : (42 : Int32) = nI 42 := rfl
theorem dp_c {C C' : Nat → Nat} : ∀ k, (∀ i, i < k → C' i = C i) → dp C' k = dp C k := by
  intro k
  induction k with
  | zero => intro _; rfl
  | succ k ih =>
    intro h
    unfold dp
    rw [h k (by omega), ih (fun i hi => h i (by omega))]
def okc (C : Nat → Nat) (k : Nat) : Prop := (C k < 1007 ∨ (2002 ≤ C k ∧ C k ≤ 2007 ∧ 2 ≤ dp C k)) ∧ dp C k < 40
theorem okc_c {C C' : Nat → Nat} {k : Nat} (h : ∀ i, i ≤ k → C' i = C i) (hk : okc C k) : okc C' k := by
  unfold okc
  rw [h k (by omega), dp_c k (fun i hi => h i (by omega))]
  exact hk
/-- what reading has brought: places, codes, depth -/
def gd (N a n : Nat) (C : Nat → Nat) (a' n' : Nat) (C' : Nat → Nat) : Prop := (a < a' ∧ a' ≤ N ∧ n < n' ∧ n' + a ≤ n + a') ∧ (∀ k, k < n → C' k = C k) ∧ dp C' n' = dp C n + 1 ∧ ∀ k, n ≤ k → k < n' → okc C' k
theorem gd.wk {N a b n a1 a2 n1 : Nat} {C C1 : Nat → Nat} (h : gd N b n C a1 n1 C1) (h1 : a ≤ b) (h2 : a1 ≤ a2) (h3 : a2 ≤ N) : gd N a n C a2 n1 C1 :=
  ⟨by have := h.1; omega, h.2⟩
theorem gd_one {N a n a' c : Nat} {C : Nat → Nat} (h1 : a < a') (h2 : a' ≤ N) (hc : c < 1007) (hd : dp C n < 40) : gd N a n C a' (n + 1) (up C n c) := by
  have e : dp (up C n c) n = dp C n := dp_c n (fun i hi => up_n (by omega))
  refine ⟨by omega, fun k hk => up_n (by omega), ?_, fun k h3 h4 => ?_⟩
  · show (if up C n c n < 2000 then dp (up C n c) n + 1 else dp (up C n c) n - 1) = _
    rw [up_s, if_pos (by omega), e]
  · have hk : k = n := by omega
    subst hk
    unfold okc
    rw [up_s, e]
    exact ⟨Or.inl hc, hd⟩
theorem gd_join {N a0 n0 a n s1 a1 n1 c : Nat} {C0 C C1 : Nat → Nat} (g0 : gd N a0 n0 C0 a n C) (g1 : gd N s1 n C a1 n1 C1) (hs : a < s1) (hc : 2002 ≤ c) (hc2 : c ≤ 2007) (hd : dp C0 n0 ≤ 30) : gd N a0 n0 C0 a1 (n1 + 1) (up C1 n1 c) := by
  obtain ⟨p0, q0, r0, t0⟩ := g0
  obtain ⟨p1, q1, r1, t1⟩ := g1
  have e : dp (up C1 n1 c) n1 = dp C1 n1 := dp_c n1 (fun i hi => up_n (by omega))
  refine ⟨by omega, fun k hk => ?_, ?_, fun k h3 h4 => ?_⟩
  · rw [up_n (by omega), q1 k (by omega), q0 k hk]
  · show (if up C1 n1 c n1 < 2000 then dp (up C1 n1 c) n1 + 1 else dp (up C1 n1 c) n1 - 1) = _
    rw [up_s, if_neg (by omega), e]
    omega
  · by_cases q : k = n1
    · subst q
      unfold okc
      rw [up_s, e]
      omega
    · by_cases q2 : k < n
      · refine okc_c (fun i hi => ?_) (t0 k h3 q2)
        rw [up_n (by omega), q1 i (by omega)]
      · exact okc_c (fun i hi => up_n (by omega)) (t1 k (by omega) (by omega))
theorem sig_ok {N c a : Nat} {Y : Nat → Nat} (ha : a ≤ N) (h : (sig N Y c a).1 = none) : a < (sig N Y c a).2 ∧ (sig N Y c a).2 ≤ N := by
  have := sk_ge (Y := Y) ha
  unfold sig at h ⊢
  by_cases q : sk N Y a < N ∧ Y (sk N Y a) = c
  · rw [if_pos q]
    show a < sk N Y a + 1 ∧ sk N Y a + 1 ≤ N
    omega
  · rw [if_neg q] at h
    simp at h
theorem num_ok {N lo hi a : Nat} {Y : Nat → Nat} (ha : a ≤ N) (h : (num N Y lo hi a).1 = none) : a < (num N Y lo hi a).2.2 ∧ (num N Y lo hi a).2.2 ≤ N := by
  have h1 := sk_ge (Y := Y) ha
  unfold num at h ⊢
  by_cases q : sk N Y a < N ∧ pD Y (sk N Y a) = true
  · rw [if_pos q] at h ⊢
    by_cases q2 : lo ≤ vlD N Y (sk N Y a) ∧ vlD N Y (sk N Y a) ≤ hi
    · rw [if_pos q2]
      show a < rn N (pD Y) (sk N Y a) ∧ rn N (pD Y) (sk N Y a) ≤ N
      rw [rn_y q.1 q.2]
      have := rn_b (N := N) (p := pD Y) (a := sk N Y a + 1) (by omega)
      omega
    · rw [if_neg q2] at h
      simp at h
  · rw [if_neg q] at h
    simp at h
def kE (l N : Nat) (Y : Nat → Nat) (a n : Nat) (C : Nat → Nat) (y : Nat × Nat) (P : q_Sm → (q_Sm → Prop) → Prop) : Prop := ∀ w Q, tC N Y a w → fC none w → lc l n C w → (∀ u, fr (aLw l) w u → sbd l N Y y u → Q u) → P w Q
def kO (l N : Nat) (Y : Nat → Nat) (a n : Nat) (C : Nat → Nat) (a' n' : Nat) (C' : Nat → Nat) (P : q_Sm → (q_Sm → Prop) → Prop) : Prop := ∀ w Q, tC N Y a w → fC none w → lc l n C w → (∀ u, fr (aLw l) w u → tC N Y a' u → fC none u → lc l n' C' u → Q u) → P w Q
def eE (N : Nat) (Y : Nat → Nat) (o a n : Nat) (C : Nat → Nat) (y : Nat × Nat) (P : q_Sm → (q_Sm → Prop) → Prop) : Prop := ∀ w Q, tR N Y a w → fR none w → w.1 79 7 = nI o → lr n C w → (∀ u, fr aRl w u → fR (some y) u → Q u) → P w Q
def eO (N : Nat) (Y : Nat → Nat) (o a n : Nat) (C : Nat → Nat) (a' n' : Nat) (C' : Nat → Nat) (P : q_Sm → (q_Sm → Prop) → Prop) : Prop := ∀ w Q, tR N Y a w → fR none w → w.1 79 7 = nI o → lr n C w → (∀ u, fr aRl w u → tR N Y a' u → fR none u → u.1 79 7 = nI o → lr n' C' u → Q u) → P w Q
def out (l N : Nat) (Y : Nat → Nat) (o ac ar n : Nat) (C : Nat → Nat) (D0 : Nat) (G : Nat → Nat → (Nat → Nat) → Prop) (Pc Pr : Nat → s_Xo → q_Sm → (q_Sm → Prop) → Prop) : Prop :=
  (∃ y, (∀ D X, D0 ≤ D → kE l N Y ac n C y (Pc D X)) ∧ (∀ D X, D0 ≤ D → eE N Y o ar n C y (Pr D X))) ∨
  ∃ a' n' C', G a' n' C' ∧ (∀ D X, D0 ≤ D → kO l N Y ac n C a' n' C' (Pc D X)) ∧ (∀ D X, D0 ≤ D → eO N Y o ar n C a' n' C' (Pr D X))
def DU (o : Nat) : Nat := 12 + 4 * (6 - o)
def outU (l N : Nat) (Y : Nat → Nat) (o a n : Nat) (C : Nat → Nat) : Prop := out l N Y o a a n C (DU o) (gd N a n C) (fun D X w Q => s_EvV D 0 mX5_readUnit w [.ref l, .ref 2, .int (nI o)] Q X) (fun D X w Q => s_EvV D 0 mX12_readUnit w [.ref 79] Q X)
def outP (l N : Nat) (Y : Nat → Nat) (o a n : Nat) (C : Nat → Nat) : Prop := out l N Y o a a n C (DU o + 1) (gd N a n C) (fun D X w Q => s_EvV D 0 mX5_readProduct w [.ref l, .ref 2, .int (nI o)] Q X) (fun D X w Q => s_EvV D 0 mX12_readProduct w [.ref 79] Q X)
def outS (l N : Nat) (Y : Nat → Nat) (o a n : Nat) (C : Nat → Nat) : Prop := out l N Y o a a n C (DU o + 2) (gd N a n C) (fun D X w Q => s_EvV D 0 mX5_readSum w [.ref l, .ref 2, .int (nI o)] Q X) (fun D X w Q => s_EvV D 0 mX12_readSum w [.ref 79] Q X)
theorem pk0_e {N s c : Nat} {Y : Nat → Nat} (hs : s < N) (hy : Y s = c) : pk0 N Y s = c := by
  unfold pk0
  rw [if_pos hs, hy]
theorem pk0_n {N s c : Nat} {Y : Nat → Nat} (hc : 0 < c) (h : ¬ (s < N ∧ Y s = c)) : pk0 N Y s ≠ c := by
  unfold pk0
  by_cases q : s < N
  · rw [if_pos q]
    exact fun z => h ⟨q, z⟩
  · rw [if_neg q]
    omega
theorem pk0_b {N a s : Nat} {Y : Nat → Nat} {w : q_Sm} (hT : tR N Y a w) : pk0 N Y s < 256 := by
  unfold pk0
  split
  · rename_i q; exact (hT.2.2.2.2 s q).1
  · decide
def outLP (l N : Nat) (Y : Nat → Nat) (o i a0 n0 : Nat) (C0 : Nat → Nat) (a n : Nat) (C : Nat → Nat) : Prop := out l N Y o a a n C (DU o + 1) (gd N a0 n0 C0) (fun D X w Q => s_Ex D 0 mX5_readProduct 8 [some (.ref l), some (.ref 2), some (.int (nI o)), some (.int (nI i))] [] w (s_V Q) X) (fun D X w Q => s_Ex D 0 mX12_readProduct 4 [some (.ref 79), none] [] w (s_V Q) X)
theorem loopP {l N o a0 n0 : Nat} {Y C0 : Nat → Nat} (hl : l = 36 ∨ l = 40) (hN : N ≤ 150) (ho : o ≤ 6) (hd : dp C0 n0 ≤ 3 * o + 1) (U : ∀ a1 n1 C1, a0 < a1 → a1 ≤ N → n1 ≤ a1 → dp C1 n1 ≤ 3 * o + 1 + 1 → outU l N Y o a1 n1 C1) : ∀ m a n C i, N - a ≤ m → gd N a0 n0 C0 a n C → n ≤ a → i < a → outLP l N Y o i a0 n0 C0 a n C := by
  intro m
  induction m with
  | zero =>
    intro a n C i hm g hn hi
    have ga := g.1
    have hsN := sk_le (Y := Y) ga.2.1
    have hsg := sk_ge (Y := Y) ga.2.1
    refine Or.inr ⟨sk N Y a, n, C, g.wk (Nat.le_refl _) hsg hsN, fun D X hD => ?_, fun D X hD => ?_⟩
    · intro w Q hT hf hc h
      obtain ⟨d, rfl⟩ : ∃ d, D = d + 8 := ⟨D - 8, by unfold DU at hD; omega⟩
      apply xX5_readProduct_8
      unfold vX5_readProduct_8
      rw [L_150, nI_leI (by omega) (by omega)]
      refine ⟨fun z => absurd z (by omega), fun _ => K_failed hf (fun z => absurd rfl z) (fun _ => ⟨fun z => absurd rfl z, fun _ => ?_⟩)⟩
      refine K_takes (c := 42) (by decide) hT hf (fun _ z => by omega) (fun _ u fu tu ffu => ⟨fun _ => ?_, fun z => absurd rfl z⟩)
      have hss := sk_sk (Y := Y) ga.2.1
      refine K_takes (c := 47) (by decide) tu ffu (fun _ z => by omega) (fun _ u2 f2 t2 ff2 => ⟨fun _ => ?_, fun z => absurd rfl z⟩)
      rw [s_Vn]
      rw [hss] at t2
      exact h u2 (aLw_T (fu.trans f2)) t2 ff2 (hc.T hl (fu.trans f2))
    · intro w Q hT hf ho7 hc h
      obtain ⟨d, rfl⟩ : ∃ d, D = d + 8 := ⟨D - 8, by unfold DU at hD; omega⟩
      have n1 := pk0_n (N := N) (s := sk N Y a) (Y := Y) (c := 42) (by decide) (fun z => by omega)
      have n2 := pk0_n (N := N) (s := sk N Y a) (Y := Y) (c := 47) (by decide) (fun z => by omega)
      have nb := pk0_b (s := sk N Y a) hT
      have hss := sk_sk (Y := Y) ga.2.1
      apply xX12_readProduct_4
      unfold vX12_readProduct_4
      refine R_fine hf (fun _ => ⟨fun z => absurd z (by decide), fun _ => ?_⟩) (fun z => absurd rfl z)
      refine R_here hT hf (fun u fu tu ffu => ?_)
      rw [L_42, nI_eq (by omega) (by omega)]
      refine ⟨fun z => absurd z n1, fun _ => R_here tu ffu (fun u2 f2 t2 ff2 => ?_)⟩
      rw [hss] at t2 ⊢
      rw [L_47, nI_eq (by omega) (by omega), s_Vn]
      refine ⟨fun _ => ?_, fun z => absurd n2 z⟩
      have f3 := fu.trans f2
      exact h u2 (aRl_x f3) t2 ff2 (by rw [f3.2 79 7 rfl]; exact ho7) (hc.x f3)
  | succ m ih =>
    intro a n C i hm g hn hi
    have ga := g.1
    have hsN := sk_le (Y := Y) ga.2.1
    have hsg := sk_ge (Y := Y) ga.2.1
    have hss := sk_sk (Y := Y) ga.2.1
    have key : ∀ c op lit rop, (c = 42 ∧ op = 2004 ∧ lit = (-10 : Int32) ∧ rop = (4 : Int32)) ∨ (c = 47 ∧ op = 2005 ∧ lit = (-11 : Int32) ∧ rop = (5 : Int32)) → sk N Y a < N → Y (sk N Y a) = c → outLP l N Y o i a0 n0 C0 a n C := by
      intro c op lit rop hco hs hy
      have hlit : lit = cc op ∧ rop = nI (r1 op) ∧ 2002 ≤ op ∧ op ≤ 2007 := by
        rcases hco with ⟨_, h2, h3, h4⟩ | ⟨_, h2, h3, h4⟩ <;> (rw [h2, h3, h4]; decide)
      -- how the class and the reference come to the second
      have kin : ∀ d X (w : q_Sm) (Q : q_Sm → Prop), tC N Y a w → fC none w → (∀ u, fr aTx w u → tC N Y (sk N Y a + 1) u → fC none u → s_EvV (d + 7) 0 mX5_readUnit u [.ref l, .ref 2, .int (nI o)] (fun u10 => q_id 116 5 l ∧ s_EvV (d + 7) 0 mX5_emit u10 [.ref l, .int lit] (fun u12 => s_Ex (d + 8) 0 mX5_readProduct 8 [some (.ref l), some (.ref 2), some (.int (nI o)), some (.int (nI (i + 1)))] [] u12 (s_V Q) X) X) X) → s_Ex (d + 8) 0 mX5_readProduct 8 [some (.ref l), some (.ref 2), some (.int (nI o)), some (.int (nI i))] [] w (s_V Q) X := by
        intro d X w Q hT hf h
        apply xX5_readProduct_8
        unfold vX5_readProduct_8
        rw [L_150, nI_leI (by omega) (by omega), nI_1 i]
        refine ⟨fun z => absurd z (by omega), fun _ => K_failed hf (fun z => absurd rfl z) (fun _ => ⟨fun z => absurd rfl z, fun _ => ?_⟩)⟩
        rcases hco with ⟨h1, h2, h3, h4⟩ | ⟨h1, h2, h3, h4⟩
        · refine K_takes (c := 42) (by decide) hT hf (fun _ _ _ u fu tu ffu => ⟨fun z => absurd z (by decide), fun _ => ⟨ic_0 hl, ?_⟩⟩) (fun z => absurd ⟨hs, by omega⟩ (z rfl))
          rw [← h3]
          exact h u fu tu ffu
        · refine K_takes (c := 42) (by decide) hT hf (fun _ _ z => by omega) (fun _ u fu tu ffu => ⟨fun _ => ?_, fun z => absurd rfl z⟩)
          refine K_takes (c := 47) (by decide) tu ffu (fun _ _ _ u2 f2 t2 ff2 => ⟨fun z => absurd z (by decide), fun _ => ⟨ic_0 hl, ?_⟩⟩) (fun z => absurd ⟨by rw [hss]; exact hs, by rw [hss]; omega⟩ (z rfl))
          rw [← h3]
          rw [hss] at t2
          exact h u2 (fu.trans f2) t2 ff2
      have ein : ∀ d X (w : q_Sm) (Q : q_Sm → Prop), tR N Y a w → fR none w → (∀ u, fr aRx w u → tR N Y (sk N Y a + 1) u → fR none u → s_EvV (d + 7) 0 mX12_readUnit u [.ref 79] (fun u10 => s_EvV (d + 7) 0 mX12_emit u10 [.ref 79, .int rop, .int 0] (fun u12 => s_Ex (d + 8) 0 mX12_readProduct 4 [some (.ref 79), none] [] u12 (s_V Q) X) X) X) → s_Ex (d + 8) 0 mX12_readProduct 4 [some (.ref 79), none] [] w (s_V Q) X := by
        intro d X w Q hT hf h
        have hp := pk0_e hs hy
        have at29 : ∀ u, fr aRx w u → tR N Y (sk N Y a) u → fR none u → s_Ex (d + 8) 0 mX12_readProduct 29 [some (.ref 79), none] [] u (s_V Q) X := by
          intro u fu tu ffu
          apply xX12_readProduct_29
          unfold vX12_readProduct_29
          refine R_here tu ffu (fun u2 f2 t2 ff2 => ?_)
          rw [hss] at t2 ⊢
          rw [hp]
          have go : ∀ w1, w1 = q_wI u2 79 4 (u2.1 79 4 + 1) → fr aRx w w1 ∧ tR N Y (sk N Y a + 1) w1 ∧ fR none w1 := by
            intro w1 e1
            have f1 : fr aRx u2 w1 := by rw [e1]; exact fr.wr rfl
            exact ⟨(fu.trans f2).trans f1, t2.mv f1 (by rw [e1, rd_s, t2.2.2.2.1, nI_1]) (by omega), ff2.mv (by rw [e1, rd_j (by decide)]) (by rw [e1, rd_j (by decide)])⟩
          rcases hco with ⟨h1, h2, h3, h4⟩ | ⟨h1, h2, h3, h4⟩
          · refine ⟨fun z => absurd (by rw [h1]; rfl) z, fun _ w1 e1 => ?_⟩
            obtain ⟨g1, g2, g3⟩ := go w1 e1
            rw [h4] at h
            exact h w1 g1 g2 g3
          · refine ⟨fun _ w1 e1 => ?_, fun z => absurd (by rw [h1]; decide) z⟩
            obtain ⟨g1, g2, g3⟩ := go w1 e1
            rw [h4] at h
            exact h w1 g1 g2 g3
        apply xX12_readProduct_4
        unfold vX12_readProduct_4
        refine R_fine hf (fun _ => ⟨fun z => absurd z (by decide), fun _ => ?_⟩) (fun z => absurd rfl z)
        refine R_here hT hf (fun u fu tu ffu => ?_)
        rw [hp]
        refine ⟨fun _ => at29 u fu tu ffu, fun z => R_here tu ffu (fun u2 f2 t2 ff2 => ?_)⟩
        rw [hss] at t2 ⊢
        rw [hp]
        refine ⟨fun z2 => ?_, fun _ => at29 u2 (fu.trans f2) t2 ff2⟩
        rcases hco with ⟨h1, _⟩ | ⟨h1, _⟩
        · exact absurd (by rw [h1]; rfl) z
        · exact absurd (by rw [h1]; rfl) z2
      rcases U (sk N Y a + 1) n C (by omega) (by omega) (by omega) (by have := g.2.2.1; omega) with ⟨y, uc, ur⟩ | ⟨a1, n1, C1, g1, uc, ur⟩
      · refine Or.inl ⟨y, fun D X hD => ?_, fun D X hD => ?_⟩
        · intro w Q hT hf hc h
          obtain ⟨d, rfl⟩ : ∃ d, D = d + 8 := ⟨D - 8, by unfold DU at hD; omega⟩
          refine kin d X w Q hT hf (fun u fu tu ffu => ?_)
          refine uc (d + 7) X (by omega) u _ tu ffu (hc.T hl fu) (fun u2 f2 b2 => ⟨ic_0 hl, K_emitB hl b2 (fun u3 f3 b3 => ?_)⟩)
          apply xX5_readProduct_8
          unfold vX5_readProduct_8
          have fin := h u3 (((aLw_T fu).trans f2).trans f3) b3
          rw [s_Vn]
          refine ⟨fun _ => fin, fun _ => K_failed b3.1 (fun _ => ⟨fun _ => ?_, fun z => absurd (by decide) z⟩) (fun z => by simp at z)⟩
          rw [s_Vn]
          exact fin
        · intro w Q hT hf ho7 hc h
          obtain ⟨d, rfl⟩ : ∃ d, D = d + 8 := ⟨D - 8, by unfold DU at hD; omega⟩
          refine ein d X w Q hT hf (fun u fu tu ffu => ?_)
          refine ur (d + 7) X (by omega) u _ tu ffu (by rw [fu.2 79 7 rfl]; exact ho7) (hc.x fu) (fun u2 f2 b2 => R_emitB (d := d + 5) b2 ?_)
          apply xX12_readProduct_4
          unfold vX12_readProduct_4
          refine R_fine b2 (fun z => by simp at z) (fun _ => ⟨fun _ => ?_, fun z => absurd rfl z⟩)
          rw [s_Vn]
          exact h u2 ((aRl_x fu).trans f2) b2
      · have g1a := g1.1
        have gj : gd N a0 n0 C0 a1 (n1 + 1) (up C1 n1 op) := gd_join g g1 (by omega) (by omega) (by omega) (by omega)
        -- from the place behind the second on
        have two : ∀ (d : Nat) (X : s_Xo), (∀ (w : q_Sm) (Q : q_Sm → Prop), tC N Y a w → fC none w → lc l n C w → DU o + 0 ≤ d + 7 → (∀ u, fr (aLw l) w u → tC N Y a1 u → fC none u → lc l (n1 + 1) (up C1 n1 op) u → s_Ex (d + 8) 0 mX5_readProduct 8 [some (.ref l), some (.ref 2), some (.int (nI o)), some (.int (nI (i + 1)))] [] u (s_V Q) X) → s_Ex (d + 8) 0 mX5_readProduct 8 [some (.ref l), some (.ref 2), some (.int (nI o)), some (.int (nI i))] [] w (s_V Q) X)
            ∧ (∀ (w : q_Sm) (Q : q_Sm → Prop), tR N Y a w → fR none w → w.1 79 7 = nI o → lr n C w → DU o + 0 ≤ d + 7 → (∀ u, fr aRl w u → tR N Y a1 u → fR none u → u.1 79 7 = nI o → lr (n1 + 1) (up C1 n1 op) u → s_Ex (d + 8) 0 mX12_readProduct 4 [some (.ref 79), none] [] u (s_V Q) X) → s_Ex (d + 8) 0 mX12_readProduct 4 [some (.ref 79), none] [] w (s_V Q) X) := by
          intro d X
          refine ⟨fun w Q hT hf hc hD h => kin d X w Q hT hf (fun u fu tu ffu => ?_), fun w Q hT hf ho7 hc hD h => ein d X w Q hT hf (fun u fu tu ffu => ?_)⟩
          · refine uc (d + 7) X (by omega) u _ tu ffu (hc.T hl fu) (fun u2 f2 t2 ff2 c2 => ⟨ic_0 hl, K_emit (d := d + 6) hl hlit.1 (by omega) t2 ff2 c2 (fun u3 f3 t3 ff3 c3 => ?_)⟩)
            exact h u3 (((aLw_T fu).trans f2).trans f3) t3 ff3 c3
          · refine ur (d + 7) X (by omega) u _ tu ffu (by rw [fu.2 79 7 rfl]; exact ho7) (hc.x fu) (fun u2 f2 t2 ff2 o2 c2 => R_emit (d := d + 5) (c := op) (by omega) hlit.2.1 (fun z => by omega) t2 ff2 o2 c2 (fun u3 f3 t3 ff3 o3 c3 => ?_))
            exact h u3 (((aRl_x fu).trans f2).trans f3) t3 ff3 o3 c3
        rcases ih a1 (n1 + 1) (up C1 n1 op) (i + 1) (by omega) gj (by omega) (by omega) with ⟨y, lc1, lr1⟩ | ⟨a2, n2, C2, g2, lc1, lr1⟩
        · refine Or.inl ⟨y, fun D X hD => ?_, fun D X hD => ?_⟩
          · intro w Q hT hf hc h
            obtain ⟨d, rfl⟩ : ∃ d, D = d + 8 := ⟨D - 8, by unfold DU at hD; omega⟩
            exact (two d X).1 w Q hT hf hc (by omega) (fun u fu tu ffu cu => lc1 (d + 8) X hD u Q tu ffu cu (fun u2 f2 b2 => h u2 (fu.trans f2) b2))
          · intro w Q hT hf ho7 hc h
            obtain ⟨d, rfl⟩ : ∃ d, D = d + 8 := ⟨D - 8, by unfold DU at hD; omega⟩
            exact (two d X).2 w Q hT hf ho7 hc (by omega) (fun u fu tu ffu ou cu => lr1 (d + 8) X hD u Q tu ffu ou cu (fun u2 f2 b2 => h u2 (fu.trans f2) b2))
        · refine Or.inr ⟨a2, n2, C2, g2, fun D X hD => ?_, fun D X hD => ?_⟩
          · intro w Q hT hf hc h
            obtain ⟨d, rfl⟩ : ∃ d, D = d + 8 := ⟨D - 8, by unfold DU at hD; omega⟩
            exact (two d X).1 w Q hT hf hc (by omega) (fun u fu tu ffu cu => lc1 (d + 8) X hD u Q tu ffu cu (fun u2 f2 t2 ff2 c2 => h u2 (fu.trans f2) t2 ff2 c2))
          · intro w Q hT hf ho7 hc h
            obtain ⟨d, rfl⟩ : ∃ d, D = d + 8 := ⟨D - 8, by unfold DU at hD; omega⟩
            exact (two d X).2 w Q hT hf ho7 hc (by omega) (fun u fu tu ffu ou cu => lr1 (d + 8) X hD u Q tu ffu ou cu (fun u2 f2 t2 ff2 o2 c2 => h u2 (fu.trans f2) t2 ff2 o2 c2))
    by_cases z1 : sk N Y a < N ∧ Y (sk N Y a) = 42
    · exact key _ _ _ _ (Or.inl ⟨rfl, rfl, rfl, rfl⟩) z1.1 z1.2
    by_cases z2 : sk N Y a < N ∧ Y (sk N Y a) = 47
    · exact key _ _ _ _ (Or.inr ⟨rfl, rfl, rfl, rfl⟩) z2.1 z2.2
    refine Or.inr ⟨sk N Y a, n, C, g.wk (Nat.le_refl _) hsg hsN, fun D X hD => ?_, fun D X hD => ?_⟩
    · intro w Q hT hf hc h
      obtain ⟨d, rfl⟩ : ∃ d, D = d + 8 := ⟨D - 8, by unfold DU at hD; omega⟩
      apply xX5_readProduct_8
      unfold vX5_readProduct_8
      rw [L_150, nI_leI (by omega) (by omega)]
      refine ⟨fun z => absurd z (by omega), fun _ => K_failed hf (fun z => absurd rfl z) (fun _ => ⟨fun z => absurd rfl z, fun _ => ?_⟩)⟩
      refine K_takes (c := 42) (by decide) hT hf (fun _ y1 y2 => absurd ⟨y1, y2⟩ z1) (fun _ u fu tu ffu => ⟨fun _ => ?_, fun z => absurd rfl z⟩)
      refine K_takes (c := 47) (by decide) tu ffu (fun _ y1 y2 => absurd ⟨by rw [hss] at y1; exact y1, by rw [hss] at y2; exact y2⟩ z2) (fun _ u2 f2 t2 ff2 => ⟨fun _ => ?_, fun z => absurd rfl z⟩)
      rw [s_Vn]
      rw [hss] at t2
      exact h u2 (aLw_T (fu.trans f2)) t2 ff2 (hc.T hl (fu.trans f2))
    · intro w Q hT hf ho7 hc h
      obtain ⟨d, rfl⟩ : ∃ d, D = d + 8 := ⟨D - 8, by unfold DU at hD; omega⟩
      have n1 := pk0_n (N := N) (s := sk N Y a) (Y := Y) (c := 42) (by decide) z1
      have n2 := pk0_n (N := N) (s := sk N Y a) (Y := Y) (c := 47) (by decide) z2
      have nb := pk0_b (s := sk N Y a) hT
      apply xX12_readProduct_4
      unfold vX12_readProduct_4
      refine R_fine hf (fun _ => ⟨fun z => absurd z (by decide), fun _ => ?_⟩) (fun z => absurd rfl z)
      refine R_here hT hf (fun u fu tu ffu => ?_)
      rw [L_42, nI_eq (by omega) (by omega)]
      refine ⟨fun z => absurd z n1, fun _ => R_here tu ffu (fun u2 f2 t2 ff2 => ?_)⟩
      rw [hss] at t2 ⊢
      rw [L_47, nI_eq (by omega) (by omega), s_Vn]
      refine ⟨fun _ => ?_, fun z => absurd n2 z⟩
      have f3 := fu.trans f2
      exact h u2 (aRl_x f3) t2 ff2 (by rw [f3.2 79 7 rfl]; exact ho7) (hc.x f3)
theorem prod_of {l N o a n : Nat} {Y C : Nat → Nat} (hl : l = 36 ∨ l = 40) (hN : N ≤ 150) (ho : o ≤ 6) (ha : a ≤ N) (hn : n ≤ a) (hd : dp C n ≤ 3 * o + 1) (U : ∀ a1 n1 C1, a ≤ a1 → a1 ≤ N → n1 ≤ a1 → dp C1 n1 ≤ 3 * o + 1 + 1 → outU l N Y o a1 n1 C1) : outP l N Y o a n C := by
  rcases U a n C (Nat.le_refl _) ha hn (by omega) with ⟨y, uc, ur⟩ | ⟨a1, n1, C1, g1, uc, ur⟩
  · refine Or.inl ⟨y, fun D X hD => ?_, fun D X hD => ?_⟩
    · intro w Q hT hf hc h
      obtain ⟨d, rfl⟩ : ∃ d, D = d + 8 := ⟨D - 8, by unfold DU at hD; omega⟩
      apply eX5_readProduct
      unfold vX5_readProduct_0
      refine ⟨ic_0 hl, uc (d + 7) X (by omega) w _ hT hf hc (fun u fu bu => ?_)⟩
      apply xX5_readProduct_8
      unfold vX5_readProduct_8
      refine ⟨fun z => absurd z (by decide), fun _ => K_failed bu.1 (fun _ => ⟨fun _ => ?_, fun z => absurd (by decide) z⟩) (fun z => by simp at z)⟩
      rw [s_Vn]
      exact h u fu bu
    · intro w Q hT hf ho7 hc h
      obtain ⟨d, rfl⟩ : ∃ d, D = d + 8 := ⟨D - 8, by unfold DU at hD; omega⟩
      apply eX12_readProduct
      unfold vX12_readProduct_0
      refine ur (d + 7) X (by omega) w _ hT hf ho7 hc (fun u fu bu => ?_)
      apply xX12_readProduct_4
      unfold vX12_readProduct_4
      refine R_fine bu (fun z => by simp at z) (fun _ => ⟨fun _ => ?_, fun z => absurd rfl z⟩)
      rw [s_Vn]
      exact h u fu bu
  · have g1a := g1.1
    have two : ∀ (d : Nat) (X : s_Xo), DU o + 0 ≤ d + 7 → (∀ (w : q_Sm) (Q : q_Sm → Prop), tC N Y a w → fC none w → lc l n C w → (∀ u, fr (aLw l) w u → tC N Y a1 u → fC none u → lc l n1 C1 u → s_Ex (d + 8) 0 mX5_readProduct 8 [some (.ref l), some (.ref 2), some (.int (nI o)), some (.int (nI 0))] [] u (s_V Q) X) → s_EvV (d + 8) 0 mX5_readProduct w [.ref l, .ref 2, .int (nI o)] Q X)
        ∧ (∀ (w : q_Sm) (Q : q_Sm → Prop), tR N Y a w → fR none w → w.1 79 7 = nI o → lr n C w → (∀ u, fr aRl w u → tR N Y a1 u → fR none u → u.1 79 7 = nI o → lr n1 C1 u → s_Ex (d + 8) 0 mX12_readProduct 4 [some (.ref 79), none] [] u (s_V Q) X) → s_EvV (d + 8) 0 mX12_readProduct w [.ref 79] Q X) := by
      intro d X hD
      refine ⟨fun w Q hT hf hc h => ?_, fun w Q hT hf ho7 hc h => ?_⟩
      · apply eX5_readProduct
        unfold vX5_readProduct_0
        exact ⟨ic_0 hl, uc (d + 7) X (by omega) w _ hT hf hc h⟩
      · apply eX12_readProduct
        unfold vX12_readProduct_0
        exact ur (d + 7) X (by omega) w _ hT hf ho7 hc h
    rcases loopP hl hN ho hd (fun a2 n2 C2 h1 h2 h3 h4 => U a2 n2 C2 (by omega) h2 h3 h4) N a1 n1 C1 0 (by omega) g1 (by omega) (by omega) with ⟨y, lc1, lr1⟩ | ⟨a2, n2, C2, g2, lc1, lr1⟩
    · refine Or.inl ⟨y, fun D X hD => ?_, fun D X hD => ?_⟩
      · intro w Q hT hf hc h
        obtain ⟨d, rfl⟩ : ∃ d, D = d + 8 := ⟨D - 8, by unfold DU at hD; omega⟩
        exact (two d X (by omega)).1 w Q hT hf hc (fun u fu tu ffu cu => lc1 (d + 8) X hD u Q tu ffu cu (fun u2 f2 b2 => h u2 (fu.trans f2) b2))
      · intro w Q hT hf ho7 hc h
        obtain ⟨d, rfl⟩ : ∃ d, D = d + 8 := ⟨D - 8, by unfold DU at hD; omega⟩
        exact (two d X (by omega)).2 w Q hT hf ho7 hc (fun u fu tu ffu ou cu => lr1 (d + 8) X hD u Q tu ffu ou cu (fun u2 f2 b2 => h u2 (fu.trans f2) b2))
    · refine Or.inr ⟨a2, n2, C2, g2, fun D X hD => ?_, fun D X hD => ?_⟩
      · intro w Q hT hf hc h
        obtain ⟨d, rfl⟩ : ∃ d, D = d + 8 := ⟨D - 8, by unfold DU at hD; omega⟩
        exact (two d X (by omega)).1 w Q hT hf hc (fun u fu tu ffu cu => lc1 (d + 8) X hD u Q tu ffu cu (fun u2 f2 t2 ff2 c2 => h u2 (fu.trans f2) t2 ff2 c2))
      · intro w Q hT hf ho7 hc h
        obtain ⟨d, rfl⟩ : ∃ d, D = d + 8 := ⟨D - 8, by unfold DU at hD; omega⟩
        exact (two d X (by omega)).2 w Q hT hf ho7 hc (fun u fu tu ffu ou cu => lr1 (d + 8) X hD u Q tu ffu ou cu (fun u2 f2 t2 ff2 o2 c2 => h u2 (fu.trans f2) t2 ff2 o2 c2))
def outLS (l N : Nat) (Y : Nat → Nat) (o i a0 n0 : Nat) (C0 : Nat → Nat) (a n : Nat) (C : Nat → Nat) : Prop := out l N Y o a a n C (DU o + 2) (gd N a0 n0 C0) (fun D X w Q => s_Ex D 0 mX5_readSum 8 [some (.ref l), some (.ref 2), some (.int (nI o)), some (.int (nI i))] [] w (s_V Q) X) (fun D X w Q => s_Ex D 0 mX12_readSum 4 [some (.ref 79), none] [] w (s_V Q) X)
theorem loopS {l N o a0 n0 : Nat} {Y C0 : Nat → Nat} (hl : l = 36 ∨ l = 40) (hN : N ≤ 150) (ho : o ≤ 6) (hd : dp C0 n0 ≤ 3 * o + 0) (U : ∀ a1 n1 C1, a0 < a1 → a1 ≤ N → n1 ≤ a1 → dp C1 n1 ≤ 3 * o + 0 + 1 → outP l N Y o a1 n1 C1) : ∀ m a n C i, N - a ≤ m → gd N a0 n0 C0 a n C → n ≤ a → i < a → outLS l N Y o i a0 n0 C0 a n C := by
  intro m
  induction m with
  | zero =>
    intro a n C i hm g hn hi
    have ga := g.1
    have hsN := sk_le (Y := Y) ga.2.1
    have hsg := sk_ge (Y := Y) ga.2.1
    refine Or.inr ⟨sk N Y a, n, C, g.wk (Nat.le_refl _) hsg hsN, fun D X hD => ?_, fun D X hD => ?_⟩
    · intro w Q hT hf hc h
      obtain ⟨d, rfl⟩ : ∃ d, D = d + 8 := ⟨D - 8, by unfold DU at hD; omega⟩
      apply xX5_readSum_8
      unfold vX5_readSum_8
      rw [L_150, nI_leI (by omega) (by omega)]
      refine ⟨fun z => absurd z (by omega), fun _ => K_failed hf (fun z => absurd rfl z) (fun _ => ⟨fun z => absurd rfl z, fun _ => ?_⟩)⟩
      refine K_takes (c := 43) (by decide) hT hf (fun _ z => by omega) (fun _ u fu tu ffu => ⟨fun _ => ?_, fun z => absurd rfl z⟩)
      have hss := sk_sk (Y := Y) ga.2.1
      refine K_takes (c := 45) (by decide) tu ffu (fun _ z => by omega) (fun _ u2 f2 t2 ff2 => ⟨fun _ => ?_, fun z => absurd rfl z⟩)
      rw [s_Vn]
      rw [hss] at t2
      exact h u2 (aLw_T (fu.trans f2)) t2 ff2 (hc.T hl (fu.trans f2))
    · intro w Q hT hf ho7 hc h
      obtain ⟨d, rfl⟩ : ∃ d, D = d + 8 := ⟨D - 8, by unfold DU at hD; omega⟩
      have n1 := pk0_n (N := N) (s := sk N Y a) (Y := Y) (c := 43) (by decide) (fun z => by omega)
      have n2 := pk0_n (N := N) (s := sk N Y a) (Y := Y) (c := 45) (by decide) (fun z => by omega)
      have nb := pk0_b (s := sk N Y a) hT
      have hss := sk_sk (Y := Y) ga.2.1
      apply xX12_readSum_4
      unfold vX12_readSum_4
      refine R_fine hf (fun _ => ⟨fun z => absurd z (by decide), fun _ => ?_⟩) (fun z => absurd rfl z)
      refine R_here hT hf (fun u fu tu ffu => ?_)
      rw [L_43, nI_eq (by omega) (by omega)]
      refine ⟨fun z => absurd z n1, fun _ => R_here tu ffu (fun u2 f2 t2 ff2 => ?_)⟩
      rw [hss] at t2 ⊢
      rw [L_45, nI_eq (by omega) (by omega), s_Vn]
      refine ⟨fun _ => ?_, fun z => absurd n2 z⟩
      have f3 := fu.trans f2
      exact h u2 (aRl_x f3) t2 ff2 (by rw [f3.2 79 7 rfl]; exact ho7) (hc.x f3)
  | succ m ih =>
    intro a n C i hm g hn hi
    have ga := g.1
    have hsN := sk_le (Y := Y) ga.2.1
    have hsg := sk_ge (Y := Y) ga.2.1
    have hss := sk_sk (Y := Y) ga.2.1
    have key : ∀ c op lit rop, (c = 43 ∧ op = 2002 ∧ lit = (-8 : Int32) ∧ rop = (2 : Int32)) ∨ (c = 45 ∧ op = 2003 ∧ lit = (-9 : Int32) ∧ rop = (3 : Int32)) → sk N Y a < N → Y (sk N Y a) = c → outLS l N Y o i a0 n0 C0 a n C := by
      intro c op lit rop hco hs hy
      have hlit : lit = cc op ∧ rop = nI (r1 op) ∧ 2002 ≤ op ∧ op ≤ 2007 := by
        rcases hco with ⟨_, h2, h3, h4⟩ | ⟨_, h2, h3, h4⟩ <;> (rw [h2, h3, h4]; decide)
      -- how the class and the reference come to the second
      have kin : ∀ d X (w : q_Sm) (Q : q_Sm → Prop), tC N Y a w → fC none w → (∀ u, fr aTx w u → tC N Y (sk N Y a + 1) u → fC none u → s_EvV (d + 7) 0 mX5_readProduct u [.ref l, .ref 2, .int (nI o)] (fun u10 => q_id 116 5 l ∧ s_EvV (d + 7) 0 mX5_emit u10 [.ref l, .int lit] (fun u12 => s_Ex (d + 8) 0 mX5_readSum 8 [some (.ref l), some (.ref 2), some (.int (nI o)), some (.int (nI (i + 1)))] [] u12 (s_V Q) X) X) X) → s_Ex (d + 8) 0 mX5_readSum 8 [some (.ref l), some (.ref 2), some (.int (nI o)), some (.int (nI i))] [] w (s_V Q) X := by
        intro d X w Q hT hf h
        apply xX5_readSum_8
        unfold vX5_readSum_8
        rw [L_150, nI_leI (by omega) (by omega), nI_1 i]
        refine ⟨fun z => absurd z (by omega), fun _ => K_failed hf (fun z => absurd rfl z) (fun _ => ⟨fun z => absurd rfl z, fun _ => ?_⟩)⟩
        rcases hco with ⟨h1, h2, h3, h4⟩ | ⟨h1, h2, h3, h4⟩
        · refine K_takes (c := 43) (by decide) hT hf (fun _ _ _ u fu tu ffu => ⟨fun z => absurd z (by decide), fun _ => ⟨ic_0 hl, ?_⟩⟩) (fun z => absurd ⟨hs, by omega⟩ (z rfl))
          rw [← h3]
          exact h u fu tu ffu
        · refine K_takes (c := 43) (by decide) hT hf (fun _ _ z => by omega) (fun _ u fu tu ffu => ⟨fun _ => ?_, fun z => absurd rfl z⟩)
          refine K_takes (c := 45) (by decide) tu ffu (fun _ _ _ u2 f2 t2 ff2 => ⟨fun z => absurd z (by decide), fun _ => ⟨ic_0 hl, ?_⟩⟩) (fun z => absurd ⟨by rw [hss]; exact hs, by rw [hss]; omega⟩ (z rfl))
          rw [← h3]
          rw [hss] at t2
          exact h u2 (fu.trans f2) t2 ff2
      have ein : ∀ d X (w : q_Sm) (Q : q_Sm → Prop), tR N Y a w → fR none w → (∀ u, fr aRx w u → tR N Y (sk N Y a + 1) u → fR none u → s_EvV (d + 7) 0 mX12_readProduct u [.ref 79] (fun u10 => s_EvV (d + 7) 0 mX12_emit u10 [.ref 79, .int rop, .int 0] (fun u12 => s_Ex (d + 8) 0 mX12_readSum 4 [some (.ref 79), none] [] u12 (s_V Q) X) X) X) → s_Ex (d + 8) 0 mX12_readSum 4 [some (.ref 79), none] [] w (s_V Q) X := by
        intro d X w Q hT hf h
        have hp := pk0_e hs hy
        have at29 : ∀ u, fr aRx w u → tR N Y (sk N Y a) u → fR none u → s_Ex (d + 8) 0 mX12_readSum 29 [some (.ref 79), none] [] u (s_V Q) X := by
          intro u fu tu ffu
          apply xX12_readSum_29
          unfold vX12_readSum_29
          refine R_here tu ffu (fun u2 f2 t2 ff2 => ?_)
          rw [hss] at t2 ⊢
          rw [hp]
          have go : ∀ w1, w1 = q_wI u2 79 4 (u2.1 79 4 + 1) → fr aRx w w1 ∧ tR N Y (sk N Y a + 1) w1 ∧ fR none w1 := by
            intro w1 e1
            have f1 : fr aRx u2 w1 := by rw [e1]; exact fr.wr rfl
            exact ⟨(fu.trans f2).trans f1, t2.mv f1 (by rw [e1, rd_s, t2.2.2.2.1, nI_1]) (by omega), ff2.mv (by rw [e1, rd_j (by decide)]) (by rw [e1, rd_j (by decide)])⟩
          rcases hco with ⟨h1, h2, h3, h4⟩ | ⟨h1, h2, h3, h4⟩
          · refine ⟨fun z => absurd (by rw [h1]; rfl) z, fun _ w1 e1 => ?_⟩
            obtain ⟨g1, g2, g3⟩ := go w1 e1
            rw [h4] at h
            exact h w1 g1 g2 g3
          · refine ⟨fun _ w1 e1 => ?_, fun z => absurd (by rw [h1]; decide) z⟩
            obtain ⟨g1, g2, g3⟩ := go w1 e1
            rw [h4] at h
            exact h w1 g1 g2 g3
        apply xX12_readSum_4
        unfold vX12_readSum_4
        refine R_fine hf (fun _ => ⟨fun z => absurd z (by decide), fun _ => ?_⟩) (fun z => absurd rfl z)
        refine R_here hT hf (fun u fu tu ffu => ?_)
        rw [hp]
        refine ⟨fun _ => at29 u fu tu ffu, fun z => R_here tu ffu (fun u2 f2 t2 ff2 => ?_)⟩
        rw [hss] at t2 ⊢
        rw [hp]
        refine ⟨fun z2 => ?_, fun _ => at29 u2 (fu.trans f2) t2 ff2⟩
        rcases hco with ⟨h1, _⟩ | ⟨h1, _⟩
        · exact absurd (by rw [h1]; rfl) z
        · exact absurd (by rw [h1]; rfl) z2
      rcases U (sk N Y a + 1) n C (by omega) (by omega) (by omega) (by have := g.2.2.1; omega) with ⟨y, uc, ur⟩ | ⟨a1, n1, C1, g1, uc, ur⟩
      · refine Or.inl ⟨y, fun D X hD => ?_, fun D X hD => ?_⟩
        · intro w Q hT hf hc h
          obtain ⟨d, rfl⟩ : ∃ d, D = d + 8 := ⟨D - 8, by unfold DU at hD; omega⟩
          refine kin d X w Q hT hf (fun u fu tu ffu => ?_)
          refine uc (d + 7) X (by omega) u _ tu ffu (hc.T hl fu) (fun u2 f2 b2 => ⟨ic_0 hl, K_emitB hl b2 (fun u3 f3 b3 => ?_)⟩)
          apply xX5_readSum_8
          unfold vX5_readSum_8
          have fin := h u3 (((aLw_T fu).trans f2).trans f3) b3
          rw [s_Vn]
          refine ⟨fun _ => fin, fun _ => K_failed b3.1 (fun _ => ⟨fun _ => ?_, fun z => absurd (by decide) z⟩) (fun z => by simp at z)⟩
          rw [s_Vn]
          exact fin
        · intro w Q hT hf ho7 hc h
          obtain ⟨d, rfl⟩ : ∃ d, D = d + 8 := ⟨D - 8, by unfold DU at hD; omega⟩
          refine ein d X w Q hT hf (fun u fu tu ffu => ?_)
          refine ur (d + 7) X (by omega) u _ tu ffu (by rw [fu.2 79 7 rfl]; exact ho7) (hc.x fu) (fun u2 f2 b2 => R_emitB (d := d + 5) b2 ?_)
          apply xX12_readSum_4
          unfold vX12_readSum_4
          refine R_fine b2 (fun z => by simp at z) (fun _ => ⟨fun _ => ?_, fun z => absurd rfl z⟩)
          rw [s_Vn]
          exact h u2 ((aRl_x fu).trans f2) b2
      · have g1a := g1.1
        have gj : gd N a0 n0 C0 a1 (n1 + 1) (up C1 n1 op) := gd_join g g1 (by omega) (by omega) (by omega) (by omega)
        -- from the place behind the second on
        have two : ∀ (d : Nat) (X : s_Xo), (∀ (w : q_Sm) (Q : q_Sm → Prop), tC N Y a w → fC none w → lc l n C w → DU o + 1 ≤ d + 7 → (∀ u, fr (aLw l) w u → tC N Y a1 u → fC none u → lc l (n1 + 1) (up C1 n1 op) u → s_Ex (d + 8) 0 mX5_readSum 8 [some (.ref l), some (.ref 2), some (.int (nI o)), some (.int (nI (i + 1)))] [] u (s_V Q) X) → s_Ex (d + 8) 0 mX5_readSum 8 [some (.ref l), some (.ref 2), some (.int (nI o)), some (.int (nI i))] [] w (s_V Q) X)
            ∧ (∀ (w : q_Sm) (Q : q_Sm → Prop), tR N Y a w → fR none w → w.1 79 7 = nI o → lr n C w → DU o + 1 ≤ d + 7 → (∀ u, fr aRl w u → tR N Y a1 u → fR none u → u.1 79 7 = nI o → lr (n1 + 1) (up C1 n1 op) u → s_Ex (d + 8) 0 mX12_readSum 4 [some (.ref 79), none] [] u (s_V Q) X) → s_Ex (d + 8) 0 mX12_readSum 4 [some (.ref 79), none] [] w (s_V Q) X) := by
          intro d X
          refine ⟨fun w Q hT hf hc hD h => kin d X w Q hT hf (fun u fu tu ffu => ?_), fun w Q hT hf ho7 hc hD h => ein d X w Q hT hf (fun u fu tu ffu => ?_)⟩
          · refine uc (d + 7) X (by omega) u _ tu ffu (hc.T hl fu) (fun u2 f2 t2 ff2 c2 => ⟨ic_0 hl, K_emit (d := d + 6) hl hlit.1 (by omega) t2 ff2 c2 (fun u3 f3 t3 ff3 c3 => ?_)⟩)
            exact h u3 (((aLw_T fu).trans f2).trans f3) t3 ff3 c3
          · refine ur (d + 7) X (by omega) u _ tu ffu (by rw [fu.2 79 7 rfl]; exact ho7) (hc.x fu) (fun u2 f2 t2 ff2 o2 c2 => R_emit (d := d + 5) (c := op) (by omega) hlit.2.1 (fun z => by omega) t2 ff2 o2 c2 (fun u3 f3 t3 ff3 o3 c3 => ?_))
            exact h u3 (((aRl_x fu).trans f2).trans f3) t3 ff3 o3 c3
        rcases ih a1 (n1 + 1) (up C1 n1 op) (i + 1) (by omega) gj (by omega) (by omega) with ⟨y, lc1, lr1⟩ | ⟨a2, n2, C2, g2, lc1, lr1⟩
        · refine Or.inl ⟨y, fun D X hD => ?_, fun D X hD => ?_⟩
          · intro w Q hT hf hc h
            obtain ⟨d, rfl⟩ : ∃ d, D = d + 8 := ⟨D - 8, by unfold DU at hD; omega⟩
            exact (two d X).1 w Q hT hf hc (by omega) (fun u fu tu ffu cu => lc1 (d + 8) X hD u Q tu ffu cu (fun u2 f2 b2 => h u2 (fu.trans f2) b2))
          · intro w Q hT hf ho7 hc h
            obtain ⟨d, rfl⟩ : ∃ d, D = d + 8 := ⟨D - 8, by unfold DU at hD; omega⟩
            exact (two d X).2 w Q hT hf ho7 hc (by omega) (fun u fu tu ffu ou cu => lr1 (d + 8) X hD u Q tu ffu ou cu (fun u2 f2 b2 => h u2 (fu.trans f2) b2))
        · refine Or.inr ⟨a2, n2, C2, g2, fun D X hD => ?_, fun D X hD => ?_⟩
          · intro w Q hT hf hc h
            obtain ⟨d, rfl⟩ : ∃ d, D = d + 8 := ⟨D - 8, by unfold DU at hD; omega⟩
            exact (two d X).1 w Q hT hf hc (by omega) (fun u fu tu ffu cu => lc1 (d + 8) X hD u Q tu ffu cu (fun u2 f2 t2 ff2 c2 => h u2 (fu.trans f2) t2 ff2 c2))
          · intro w Q hT hf ho7 hc h
            obtain ⟨d, rfl⟩ : ∃ d, D = d + 8 := ⟨D - 8, by unfold DU at hD; omega⟩
            exact (two d X).2 w Q hT hf ho7 hc (by omega) (fun u fu tu ffu ou cu => lr1 (d + 8) X hD u Q tu ffu ou cu (fun u2 f2 t2 ff2 o2 c2 => h u2 (fu.trans f2) t2 ff2 o2 c2))
    by_cases z1 : sk N Y a < N ∧ Y (sk N Y a) = 43
    · exact key _ _ _ _ (Or.inl ⟨rfl, rfl, rfl, rfl⟩) z1.1 z1.2
    by_cases z2 : sk N Y a < N ∧ Y (sk N Y a) = 45
    · exact key _ _ _ _ (Or.inr ⟨rfl, rfl, rfl, rfl⟩) z2.1 z2.2
    refine Or.inr ⟨sk N Y a, n, C, g.wk (Nat.le_refl _) hsg hsN, fun D X hD => ?_, fun D X hD => ?_⟩
    · intro w Q hT hf hc h
      obtain ⟨d, rfl⟩ : ∃ d, D = d + 8 := ⟨D - 8, by unfold DU at hD; omega⟩
      apply xX5_readSum_8
      unfold vX5_readSum_8
      rw [L_150, nI_leI (by omega) (by omega)]
      refine ⟨fun z => absurd z (by omega), fun _ => K_failed hf (fun z => absurd rfl z) (fun _ => ⟨fun z => absurd rfl z, fun _ => ?_⟩)⟩
      refine K_takes (c := 43) (by decide) hT hf (fun _ y1 y2 => absurd ⟨y1, y2⟩ z1) (fun _ u fu tu ffu => ⟨fun _ => ?_, fun z => absurd rfl z⟩)
      refine K_takes (c := 45) (by decide) tu ffu (fun _ y1 y2 => absurd ⟨by rw [hss] at y1; exact y1, by rw [hss] at y2; exact y2⟩ z2) (fun _ u2 f2 t2 ff2 => ⟨fun _ => ?_, fun z => absurd rfl z⟩)
      rw [s_Vn]
      rw [hss] at t2
      exact h u2 (aLw_T (fu.trans f2)) t2 ff2 (hc.T hl (fu.trans f2))
    · intro w Q hT hf ho7 hc h
      obtain ⟨d, rfl⟩ : ∃ d, D = d + 8 := ⟨D - 8, by unfold DU at hD; omega⟩
      have n1 := pk0_n (N := N) (s := sk N Y a) (Y := Y) (c := 43) (by decide) z1
      have n2 := pk0_n (N := N) (s := sk N Y a) (Y := Y) (c := 45) (by decide) z2
      have nb := pk0_b (s := sk N Y a) hT
      apply xX12_readSum_4
      unfold vX12_readSum_4
      refine R_fine hf (fun _ => ⟨fun z => absurd z (by decide), fun _ => ?_⟩) (fun z => absurd rfl z)
      refine R_here hT hf (fun u fu tu ffu => ?_)
      rw [L_43, nI_eq (by omega) (by omega)]
      refine ⟨fun z => absurd z n1, fun _ => R_here tu ffu (fun u2 f2 t2 ff2 => ?_)⟩
      rw [hss] at t2 ⊢
      rw [L_45, nI_eq (by omega) (by omega), s_Vn]
      refine ⟨fun _ => ?_, fun z => absurd n2 z⟩
      have f3 := fu.trans f2
      exact h u2 (aRl_x f3) t2 ff2 (by rw [f3.2 79 7 rfl]; exact ho7) (hc.x f3)
theorem sum_of {l N o a n : Nat} {Y C : Nat → Nat} (hl : l = 36 ∨ l = 40) (hN : N ≤ 150) (ho : o ≤ 6) (ha : a ≤ N) (hn : n ≤ a) (hd : dp C n ≤ 3 * o + 0) (U : ∀ a1 n1 C1, a ≤ a1 → a1 ≤ N → n1 ≤ a1 → dp C1 n1 ≤ 3 * o + 0 + 1 → outP l N Y o a1 n1 C1) : outS l N Y o a n C := by
  rcases U a n C (Nat.le_refl _) ha hn (by omega) with ⟨y, uc, ur⟩ | ⟨a1, n1, C1, g1, uc, ur⟩
  · refine Or.inl ⟨y, fun D X hD => ?_, fun D X hD => ?_⟩
    · intro w Q hT hf hc h
      obtain ⟨d, rfl⟩ : ∃ d, D = d + 8 := ⟨D - 8, by unfold DU at hD; omega⟩
      apply eX5_readSum
      unfold vX5_readSum_0
      refine ⟨ic_0 hl, uc (d + 7) X (by omega) w _ hT hf hc (fun u fu bu => ?_)⟩
      apply xX5_readSum_8
      unfold vX5_readSum_8
      refine ⟨fun z => absurd z (by decide), fun _ => K_failed bu.1 (fun _ => ⟨fun _ => ?_, fun z => absurd (by decide) z⟩) (fun z => by simp at z)⟩
      rw [s_Vn]
      exact h u fu bu
    · intro w Q hT hf ho7 hc h
      obtain ⟨d, rfl⟩ : ∃ d, D = d + 8 := ⟨D - 8, by unfold DU at hD; omega⟩
      apply eX12_readSum
      unfold vX12_readSum_0
      refine ur (d + 7) X (by omega) w _ hT hf ho7 hc (fun u fu bu => ?_)
      apply xX12_readSum_4
      unfold vX12_readSum_4
      refine R_fine bu (fun z => by simp at z) (fun _ => ⟨fun _ => ?_, fun z => absurd rfl z⟩)
      rw [s_Vn]
      exact h u fu bu
  · have g1a := g1.1
    have two : ∀ (d : Nat) (X : s_Xo), DU o + 1 ≤ d + 7 → (∀ (w : q_Sm) (Q : q_Sm → Prop), tC N Y a w → fC none w → lc l n C w → (∀ u, fr (aLw l) w u → tC N Y a1 u → fC none u → lc l n1 C1 u → s_Ex (d + 8) 0 mX5_readSum 8 [some (.ref l), some (.ref 2), some (.int (nI o)), some (.int (nI 0))] [] u (s_V Q) X) → s_EvV (d + 8) 0 mX5_readSum w [.ref l, .ref 2, .int (nI o)] Q X)
        ∧ (∀ (w : q_Sm) (Q : q_Sm → Prop), tR N Y a w → fR none w → w.1 79 7 = nI o → lr n C w → (∀ u, fr aRl w u → tR N Y a1 u → fR none u → u.1 79 7 = nI o → lr n1 C1 u → s_Ex (d + 8) 0 mX12_readSum 4 [some (.ref 79), none] [] u (s_V Q) X) → s_EvV (d + 8) 0 mX12_readSum w [.ref 79] Q X) := by
      intro d X hD
      refine ⟨fun w Q hT hf hc h => ?_, fun w Q hT hf ho7 hc h => ?_⟩
      · apply eX5_readSum
        unfold vX5_readSum_0
        exact ⟨ic_0 hl, uc (d + 7) X (by omega) w _ hT hf hc h⟩
      · apply eX12_readSum
        unfold vX12_readSum_0
        exact ur (d + 7) X (by omega) w _ hT hf ho7 hc h
    rcases loopS hl hN ho hd (fun a2 n2 C2 h1 h2 h3 h4 => U a2 n2 C2 (by omega) h2 h3 h4) N a1 n1 C1 0 (by omega) g1 (by omega) (by omega) with ⟨y, lc1, lr1⟩ | ⟨a2, n2, C2, g2, lc1, lr1⟩
    · refine Or.inl ⟨y, fun D X hD => ?_, fun D X hD => ?_⟩
      · intro w Q hT hf hc h
        obtain ⟨d, rfl⟩ : ∃ d, D = d + 8 := ⟨D - 8, by unfold DU at hD; omega⟩
        exact (two d X (by omega)).1 w Q hT hf hc (fun u fu tu ffu cu => lc1 (d + 8) X hD u Q tu ffu cu (fun u2 f2 b2 => h u2 (fu.trans f2) b2))
      · intro w Q hT hf ho7 hc h
        obtain ⟨d, rfl⟩ : ∃ d, D = d + 8 := ⟨D - 8, by unfold DU at hD; omega⟩
        exact (two d X (by omega)).2 w Q hT hf ho7 hc (fun u fu tu ffu ou cu => lr1 (d + 8) X hD u Q tu ffu ou cu (fun u2 f2 b2 => h u2 (fu.trans f2) b2))
    · refine Or.inr ⟨a2, n2, C2, g2, fun D X hD => ?_, fun D X hD => ?_⟩
      · intro w Q hT hf hc h
        obtain ⟨d, rfl⟩ : ∃ d, D = d + 8 := ⟨D - 8, by unfold DU at hD; omega⟩
        exact (two d X (by omega)).1 w Q hT hf hc (fun u fu tu ffu cu => lc1 (d + 8) X hD u Q tu ffu cu (fun u2 f2 t2 ff2 c2 => h u2 (fu.trans f2) t2 ff2 c2))
      · intro w Q hT hf ho7 hc h
        obtain ⟨d, rfl⟩ : ∃ d, D = d + 8 := ⟨D - 8, by unfold DU at hD; omega⟩
        exact (two d X (by omega)).2 w Q hT hf ho7 hc (fun u fu tu ffu ou cu => lr1 (d + 8) X hD u Q tu ffu ou cu (fun u2 f2 t2 ff2 o2 c2 => h u2 (fu.trans f2) t2 ff2 o2 c2))
