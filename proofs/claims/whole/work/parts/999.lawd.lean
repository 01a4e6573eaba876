/-! the law's text: units, and all of it -/
theorem K_unitIn {d N a o l : Nat} {Y : Nat → Nat} {X : s_Xo} {w : q_Sm} {Q : q_Sm → Prop} (hT : tC N Y a w) (hf : fC none w) (hnd : ¬ (sk N Y a < N ∧ pD Y (sk N Y a) = true)) (hnp : ¬ (sk N Y a < N ∧ Y (sk N Y a) = 40))
    (h : ∀ u, fr aTx w u → tC N Y (rn N (pL Y) (sk N Y a)) u → fC none u → u.1 2 4 = nI (sk N Y a) → s_EvI (d + 11) 0 mX10_was u [.ref 2, .retAddr 12] (fun v7 u8 => ((v7 = 0) → s_EvI (d + 11) 0 mX10_was u8 [.ref (2), .retAddr (13)] (fun v9 u10 => ((v9 = 0) → q_id 116 5 l ∧ s_EvV (d + 11) 0 mX5_readName u10 [.ref (l), .ref (2)] (fun u12 => s_V Q none u12) X) ∧ (¬ (v9 = 0) → q_id 116 5 l ∧ s_EvV (d + 11) 0 mX5_readPair u10 [.ref (l), .ref (2), .int (nI o), .int (-13)] (fun u14 => s_V Q none u14) X)) X) ∧ (¬ (v7 = 0) → q_id 116 5 l ∧ s_EvV (d + 11) 0 mX5_readPair u8 [.ref (l), .ref (2), .int (nI o), .int (-12)] (fun u16 => s_V Q none u16) X)) X) : s_EvV (d + 12) 0 mX5_readUnit w [.ref l, .ref 2, .int (nI o)] Q X := by
  have hss := sk_sk (Y := Y) hT.2.1
  apply eX5_readUnit
  unfold vX5_readUnit_0
  refine K_isAtDigit hT hf (fun u fu tu ffu => ?_)
  rw [if_neg hnd]
  refine ⟨fun _ => ?_, fun z => absurd rfl z⟩
  refine K_takes (c := 40) (by decide) tu ffu (fun _ z1 z2 => absurd ⟨by rw [hss] at z1; exact z1, by rw [hss] at z2; exact z2⟩ hnp) (fun _ u2 f2 t2 ff2 => ⟨fun _ => ?_, fun z => absurd rfl z⟩)
  rw [hss] at t2
  refine K_word (d := d + 9) t2 ff2 (fun u3 f3 t3 ff3 s3 => ?_)
  rw [hss] at t3 s3
  exact h u3 ((fu.trans f2).trans f3) t3 ff3 s3
theorem R_unitIn {d N a : Nat} {Y : Nat → Nat} {X : s_Xo} {w : q_Sm} {Q : q_Sm → Prop} (hT : tR N Y a w) (hf : fR none w) (hnd : ¬ (sk N Y a < N ∧ pD Y (sk N Y a) = true)) (hnp : ¬ (sk N Y a < N ∧ Y (sk N Y a) = 40))
    (h1 : wA N Y (sk N Y a) 12 → ∀ u, fr aRx w u → tR N Y (sk N Y a) u → fR none u → s_EvV (d + 11) 0 mX12_readTwo u [.ref 79, .int 5, .int 6] (fun u => s_V Q none u) X)
    (h2 : ¬ wA N Y (sk N Y a) 12 → wA N Y (sk N Y a) 13 → ∀ u, fr aRx w u → tR N Y (sk N Y a) u → fR none u → s_EvV (d + 11) 0 mX12_readTwo u [.ref 79, .int 4, .int 7] (fun u => s_V Q none u) X)
    (h3 : ¬ wA N Y (sk N Y a) 12 → ¬ wA N Y (sk N Y a) 13 → fcW N Y (sk N Y a) = none → ∀ u, fr aRx w u → fR (some (1, sk N Y a)) u → Q u)
    (h4 : ∀ k, ¬ wA N Y (sk N Y a) 12 → ¬ wA N Y (sk N Y a) 13 → fcW N Y (sk N Y a) = some k → ∀ u, fr aRx w u → tR N Y (rn N (pL Y) (sk N Y a)) u → fR none u → s_EvV (d + 11) 0 mX12_emit u [.ref 79, .int 1, .int (nI k)] (fun u => s_V Q none u) X) : s_EvV (d + 12) 0 mX12_readUnit w [.ref 79] Q X := by
  have hsN := sk_le (Y := Y) hT.2.1
  have h600 := hT.1
  have hss := sk_sk (Y := Y) hT.2.1
  generalize hsd : sk N Y a = s at *
  apply eX12_readUnit
  unfold vX12_readUnit_0
  refine R_fine hf (fun _ => ⟨fun _ => ?_, fun z => absurd (by decide) z⟩) (fun z => absurd rfl z)
  refine R_here hT hf (fun u fu tu ffu => ?_)
  rw [hsd] at tu ⊢
  have nb := pk0_b (s := s) tu
  have np := pk0_n (N := N) (s := s) (Y := Y) (c := 40) (by decide) hnp
  rw [L_40, nI_eq (by omega) (by omega)]
  refine ⟨fun _ => ?_, fun z => absurd np z⟩
  refine R_here tu ffu (fun u2 f2 t2 ff2 => ?_)
  rw [hss] at t2 ⊢
  have hnd' : ¬ (48 ≤ pk0 N Y s ∧ pk0 N Y s ≤ 57) := by
    intro z
    unfold pk0 at z
    by_cases q2 : s < N
    · rw [if_pos q2] at z
      exact hnd ⟨q2, decide_eq_true z⟩
    · rw [if_neg q2] at z
      omega
  refine R_isDigit nb ?_
  rw [if_neg hnd']
  refine ⟨fun _ => ?_, fun z => absurd rfl z⟩
  refine R_word (d := d + 9) t2 ff2 (fun u3 f3 t3 ff3 => ?_)
  rw [hss] at t3 ⊢
  refine R_isW (d := d + 6) (Y := Y) (c := 12) hsN (by decide) (by decide) fct_l (fun v hv => ?_)
  rw [hv]
  have fr3 := (fu.trans f2).trans f3
  refine ⟨fun z1 => ?_, fun z1 => h1 (Classical.not_not.mp z1) u3 fr3 t3 ff3⟩
  refine R_word (d := d + 9) t3 ff3 (fun u4 f4 t4 ff4 => ?_)
  rw [hss] at t4 ⊢
  refine R_isW (d := d + 6) (Y := Y) (c := 13) hsN (by decide) (by decide) fct_m (fun v hv => ?_)
  rw [hv]
  have fr4 := fr3.trans f4
  refine ⟨fun z2 => ?_, fun z2 => h2 z1 (Classical.not_not.mp z2) u4 fr4 t4 ff4⟩
  refine R_factHere (d := d + 5) t4 ff4 (fun u5 f5 t5 ff5 => ?_)
  rw [hss] at t5 ⊢
  have fr5 := fr4.trans f5
  cases hc : fcW N Y s with
  | none =>
    refine ⟨fun z => absurd rfl z, fun _ => ?_⟩
    rw [t5.2.2.2.1]
    refine R_wrong (k := 1) ff5 (by decide) (by decide) (by omega) (fun u6 f6 g6 ff6 => R_fine ff6 (fun z => by simp [orf] at z) (fun _ => ⟨fun z => absurd rfl z, fun _ => ?_⟩))
    rw [s_Vn]
    exact h3 z1 z2 hc u6 (fr5.trans f6) ff6
  | some k =>
    have hk := fcW_le hc
    refine ⟨fun _ => R_fine ff5 (fun _ => ⟨fun _ => ?_, fun z => absurd (by decide) z⟩) (fun z => absurd rfl z), fun z => absurd (fun y => (oI_n (show k < 2 ^ 31 by omega)).mp y) z⟩
    refine R_pass (d := d + 9) (N - s) s u5 _ (by omega) t5 ff5 (fun u6 f6 t6 ff6 => ?_)
    exact h4 k z1 z2 hc u6 (fr5.trans f6) t6 ff6
theorem unit_of {l N o a n : Nat} {Y C : Nat → Nat} (hl : l = 36 ∨ l = 40) (hN : N ≤ 150) (ho : o ≤ 6) (ha : a ≤ N) (hn : n ≤ a) (hd : dp C n ≤ 3 * o + 2)
    (S : o < 6 → ∀ a1 n1 C1, a < a1 → a1 ≤ N → n1 ≤ a1 → dp C1 n1 ≤ 3 * (o + 1) → outS l N Y (o + 1) a1 n1 C1) : outU l N Y o a n C := by
  have hsN := sk_le (Y := Y) ha
  have hsg := sk_ge (Y := Y) ha
  have hss := sk_sk (Y := Y) ha
  have hD12 : ∀ D, DU o ≤ D → ∃ d, D = d + 12 ∧ DU o ≤ d + 12 := fun D hD => ⟨D - 12, by unfold DU at hD; omega, by unfold DU at hD ⊢; omega⟩
  have o7 : ∀ {w u : q_Sm} {o : Nat}, fr aRx w u → w.1 79 7 = nI o → u.1 79 7 = nI o := fun f h => by rw [f.2 79 7 rfl]; exact h
  by_cases hdg : sk N Y a < N ∧ pD Y (sk N Y a) = true
  · -- a figure
    have hY : 48 ≤ Y (sk N Y a) ∧ Y (sk N Y a) ≤ 57 := of_decide_eq_true hdg.2
    have kin : ∀ d X (w : q_Sm) (Q : q_Sm → Prop), tC N Y a w → fC none w → (∀ u, fr aTx w u → tC N Y (num N Y 0 999 (sk N Y a)).2.2 u → fC (num N Y 0 999 (sk N Y a)).1 u → s_EvV (d + 11) 0 mX5_emit u [.ref l, .int (nI (num N Y 0 999 (sk N Y a)).2.1)] (fun u => s_V Q none u) X) → s_EvV (d + 12) 0 mX5_readUnit w [.ref l, .ref 2, .int (nI o)] Q X := by
      intro d X w Q hT hf h
      apply eX5_readUnit
      unfold vX5_readUnit_0
      refine K_isAtDigit hT hf (fun u fu tu ffu => ?_)
      rw [if_pos hdg]
      refine ⟨fun z => absurd z (by decide), fun _ => ?_⟩
      refine K_number (d := d + 9) (lo := 0) (hi := 999) (by decide) (by decide) tu ffu (fun u2 f2 t2 ff2 _ => ⟨ic_0 hl, ?_⟩)
      exact h u2 (fu.trans f2) t2 ff2
    have ein : ∀ d X (w : q_Sm) (Q : q_Sm → Prop), tR N Y a w → fR none w → (∀ u a' v, fr aRx w u → tR N Y a' u → fR (num N Y 0 999 (sk N Y a)).1 u → ((num N Y 0 999 (sk N Y a)).1 = none → a' = (num N Y 0 999 (sk N Y a)).2.2 ∧ v = nI (num N Y 0 999 (sk N Y a)).2.1) → s_EvV (d + 11) 0 mX12_emit u [.ref 79, .int 0, .int v] (fun u => s_V Q none u) X) → s_EvV (d + 12) 0 mX12_readUnit w [.ref 79] Q X := by
      intro d X w Q hT hf h
      have hp : pk0 N Y (sk N Y a) = Y (sk N Y a) := if_pos hdg.1
      apply eX12_readUnit
      unfold vX12_readUnit_0
      refine R_fine hf (fun _ => ⟨fun _ => ?_, fun z => absurd (by decide) z⟩) (fun z => absurd rfl z)
      refine R_here hT hf (fun u fu tu ffu => ?_)
      rw [hp, L_40, nI_eq (by omega) (by omega)]
      refine ⟨fun _ => ?_, fun z => absurd (by omega) z⟩
      refine R_here tu ffu (fun u2 f2 t2 ff2 => ?_)
      rw [hss] at t2 ⊢
      rw [hp]
      refine R_isDigit (by omega) ?_
      rw [if_pos hY]
      refine ⟨fun z => absurd z (by decide), fun _ => ?_⟩
      refine R_readNumber (d := d + 9) (lo := 0) (hi := 999) (by decide) (by decide) t2 ff2 (fun u3 a' v f3 t3 ff3 h3 => ?_)
      exact h u3 a' v ((fu.trans f2).trans f3) t3 ff3 h3
    cases hr : (num N Y 0 999 (sk N Y a)).1 with
    | some y =>
      refine Or.inl ⟨y, fun D X hD => ?_, fun D X hD => ?_⟩
      · intro w Q hT hf hc h
        obtain ⟨d, rfl, hd2⟩ := hD12 D hD
        refine kin d X w Q hT hf (fun u fu tu ffu => ?_)
        rw [hr] at ffu
        refine K_emitB hl (sbd.of ffu tu (hc.T hl fu)) (fun u2 f2 b2 => ?_)
        rw [s_Vn]
        exact h u2 ((aLw_T fu).trans f2) b2
      · intro w Q hT hf h7 hc h
        obtain ⟨d, rfl, hd2⟩ := hD12 D hD
        refine ein d X w Q hT hf (fun u a' v fu tu ffu _ => ?_)
        rw [hr] at ffu
        refine R_emitB (d := d + 9) ffu ?_
        rw [s_Vn]
        exact h u (aRl_x fu) ffu
    | none =>
      have hok := num_ok hsN hr
      have hv := (num_v (N := N) (Y := Y) (a := sk N Y a) (show 0 ≤ 999 by omega)).2
      refine Or.inr ⟨(num N Y 0 999 (sk N Y a)).2.2, n + 1, up C n (num N Y 0 999 (sk N Y a)).2.1, gd_one (by omega) hok.2 (by omega) (by omega), fun D X hD => ?_, fun D X hD => ?_⟩
      · intro w Q hT hf hc h
        obtain ⟨d, rfl, hd2⟩ := hD12 D hD
        refine kin d X w Q hT hf (fun u fu tu ffu => ?_)
        rw [hr] at ffu
        refine K_emit (d := d + 10) hl (cc_pos (by omega)).symm (by omega) tu ffu (hc.T hl fu) (fun u2 f2 t2 ff2 c2 => ?_)
        rw [s_Vn]
        exact h u2 ((aLw_T fu).trans f2) t2 ff2 c2
      · intro w Q hT hf h7 hc h
        obtain ⟨d, rfl, hd2⟩ := hD12 D hD
        refine ein d X w Q hT hf (fun u a' v fu tu ffu hx => ?_)
        rw [hr] at ffu
        obtain ⟨e1, e2⟩ := hx hr
        subst e1 e2
        refine R_emit (d := d + 9) (c := (num N Y 0 999 (sk N Y a)).2.1) (by omega) ?_ (fun _ => ?_) tu ffu (o7 fu h7) (hc.x fu) (fun u2 f2 t2 ff2 o2 c2 => ?_)
        · unfold r1; rw [if_pos (by omega)]; rfl
        · unfold r2; rw [if_pos (by omega)]
        · rw [s_Vn]
          exact h u2 ((aRl_x fu).trans f2) t2 ff2 o2 c2
  by_cases hpa : sk N Y a < N ∧ Y (sk N Y a) = 40
  · -- opened
    have kin : ∀ d X (w : q_Sm) (Q : q_Sm → Prop), tC N Y a w → fC none w → (∀ u, fr aTx w u → tC N Y (sk N Y a + 1) u → fC none u → u.1 2 4 = nI (sk N Y a) → s_EvI (d + 11) 0 mX5_mayOpen u [.ref (2), .int (nI o)] (fun v17 u18 => ((v17 = 0) → s_V Q none u18) ∧ (¬ (v17 = 0) → q_id 116 5 l ∧ s_EvV (d + 11) 0 mX5_readSum u18 [.ref (l), .ref (2), .int (nI (o + 1))] (fun u20 => s_EvV (d + 11) 0 mX10_need u20 [.ref (2), .int (41)] (fun u22 => s_V Q none u22) X) X)) X) → s_EvV (d + 12) 0 mX5_readUnit w [.ref l, .ref 2, .int (nI o)] Q X := by
      intro d X w Q hT hf h
      apply eX5_readUnit
      unfold vX5_readUnit_0
      rw [nI_1 o]
      refine K_isAtDigit hT hf (fun u fu tu ffu => ?_)
      rw [if_neg hdg]
      refine ⟨fun _ => ?_, fun z => absurd rfl z⟩
      refine K_takes4 (c := 40) (by decide) tu ffu (by rw [hss]; exact hpa.1) (by rw [hss]; exact hpa.2) (fun u2 f2 t2 ff2 s2 => ⟨fun z => absurd z (by decide), fun _ => ?_⟩)
      rw [hss] at t2 s2
      exact h u2 (fu.trans f2) t2 ff2 s2
    have ein : ∀ d X (w : q_Sm) (Q : q_Sm → Prop), tR N Y a w → fR none w → (∀ u, fr aRx w u → tR N Y (sk N Y a) u → fR none u → s_EvV (d + 11) 0 mX12_opensOne u [.ref (79), .int (nI 1)] (fun u42 => s_EvV (d + 11) 0 mX12_readSum u42 [.ref (79)] (fun u44 => s_EvV (d + 11) 0 mX12_sign u44 [.ref (79), .int (41)] (fun u46 => ∀ w_47 : q_Sm, w_47 = q_wI u46 79 7 ((u46.1 79 7) - 1) → s_V Q none w_47) X) X) X) → s_EvV (d + 12) 0 mX12_readUnit w [.ref 79] Q X := by
      intro d X w Q hT hf h
      have hp := pk0_e hpa.1 hpa.2
      apply eX12_readUnit
      unfold vX12_readUnit_0
      refine R_fine hf (fun _ => ⟨fun _ => ?_, fun z => absurd (by decide) z⟩) (fun z => absurd rfl z)
      refine R_here hT hf (fun u fu tu ffu => ?_)
      rw [hp]
      exact ⟨fun z => absurd rfl z, fun _ => h u fu tu ffu⟩
    have eend : ∀ (y : Nat × Nat) d X (w : q_Sm) (Q : q_Sm → Prop), fR (some y) w → (∀ u, fr aRl w u → fR (some y) u → Q u) → s_EvV (d + 11) 0 mX12_sign w [.ref (79), .int (41)] (fun u46 => ∀ w_47 : q_Sm, w_47 = q_wI u46 79 7 ((u46.1 79 7) - 1) → s_V Q none w_47) X := by
      intro y d X w Q hf h
      refine R_signB (d := d + 9) hf ?_
      intro w1 e1
      rw [s_Vn]
      exact h w1 (by rw [e1]; exact fr.wr rfl) (hf.mv (by rw [e1, rd_j (by decide)]) (by rw [e1, rd_j (by decide)]))
    by_cases ho6 : o < 6
    · have kin2 : ∀ d X (w : q_Sm) (Q : q_Sm → Prop), tC N Y a w → fC none w → (∀ u, fr aTx w u → tC N Y (sk N Y a + 1) u → fC none u → s_EvV (d + 11) 0 mX5_readSum u [.ref (l), .ref (2), .int (nI (o + 1))] (fun u20 => s_EvV (d + 11) 0 mX10_need u20 [.ref (2), .int (41)] (fun u22 => s_V Q none u22) X) X) → s_EvV (d + 12) 0 mX5_readUnit w [.ref l, .ref 2, .int (nI o)] Q X := by
        intro d X w Q hT hf h
        exact kin d X w Q hT hf (fun u fu tu ffu su => K_mayOpen1 (d := d + 9) ho6 ffu ⟨fun z => absurd z (by decide), fun _ => ⟨ic_0 hl, h u fu tu ffu⟩⟩)
      have ein2 : ∀ d X (w : q_Sm) (Q : q_Sm → Prop), tR N Y a w → fR none w → w.1 79 7 = nI o → lr n C w → (∀ u, fr aRl w u → tR N Y (sk N Y a + 1) u → fR none u → u.1 79 7 = nI (o + 1) → lr n C u → s_EvV (d + 11) 0 mX12_readSum u [.ref (79)] (fun u44 => s_EvV (d + 11) 0 mX12_sign u44 [.ref (79), .int (41)] (fun u46 => ∀ w_47 : q_Sm, w_47 = q_wI u46 79 7 ((u46.1 79 7) - 1) → s_V Q none w_47) X) X) → s_EvV (d + 12) 0 mX12_readUnit w [.ref 79] Q X := by
        intro d X w Q hT hf h7 hc h
        exact ein d X w Q hT hf (fun u fu tu ffu => R_opens (d := d + 9) (b := 1) ho6 (by omega) tu ffu (o7 fu h7) (hc.x fu) (fun u2 f2 t2 ff2 o2 c2 => h u2 ((aRl_x fu).trans f2) t2 ff2 o2 c2))
      have hDS : ∀ d, DU o ≤ d + 12 → DU (o + 1) + 2 ≤ d + 11 := fun d h => by unfold DU at h ⊢; omega
      rcases S ho6 (sk N Y a + 1) n C (by omega) (by omega) (by omega) (by omega) with ⟨y, uc, ur⟩ | ⟨a1, n1, C1, g1, uc, ur⟩
      · refine Or.inl ⟨y, fun D X hD => ?_, fun D X hD => ?_⟩
        · intro w Q hT hf hc h
          obtain ⟨d, rfl, hd2⟩ := hD12 D hD
          refine kin2 d X w Q hT hf (fun u fu tu ffu => uc (d + 11) X (hDS d hd2) u _ tu ffu (hc.T hl fu) (fun u2 f2 b2 => K_needB (d := d + 8) (c := 41) hl (by decide) b2 (fun u3 f3 b3 => ?_)))
          rw [s_Vn]
          exact h u3 (((aLw_T fu).trans f2).trans f3) b3
        · intro w Q hT hf h7 hc h
          obtain ⟨d, rfl, hd2⟩ := hD12 D hD
          exact ein2 d X w Q hT hf h7 hc (fun u fu tu ffu ou cu => ur (d + 11) X (hDS d hd2) u _ tu ffu ou cu (fun u2 f2 b2 => eend y d X u2 Q b2 (fun u3 f3 b3 => h u3 ((fu.trans f2).trans f3) b3)))
      have g1a := g1.1
      cases hg : (sig N Y 41 a1).1 with
      | some y =>
        refine Or.inl ⟨y, fun D X hD => ?_, fun D X hD => ?_⟩
        · intro w Q hT hf hc h
          obtain ⟨d, rfl, hd2⟩ := hD12 D hD
          refine kin2 d X w Q hT hf (fun u fu tu ffu => uc (d + 11) X (hDS d hd2) u _ tu ffu (hc.T hl fu) (fun u2 f2 t2 ff2 c2 => K_need (d := d + 8) (c := 41) (by decide) t2 ff2 (fun u3 a' f3 t3 _ ff3 => ?_)))
          rw [hg] at ff3
          rw [s_Vn]
          exact h u3 (((aLw_T fu).trans f2).trans (aLw_T f3)) (sbd.of ff3 t3 (c2.T hl f3))
        · intro w Q hT hf h7 hc h
          obtain ⟨d, rfl, hd2⟩ := hD12 D hD
          refine ein2 d X w Q hT hf h7 hc (fun u fu tu ffu ou cu => ur (d + 11) X (hDS d hd2) u _ tu ffu ou cu (fun u2 f2 t2 ff2 o2 c2 => R_sign (d := d + 9) (c := 41) (by decide) (by decide) t2 ff2 (fun u3 a' f3 t3 _ ff3 => ?_)))
          rw [hg] at ff3
          intro w1 e1
          rw [s_Vn]
          have ff3 : fR (some y) u3 := ff3
          exact h w1 (by rw [e1]; exact (((fu.trans f2).trans (aRl_x f3))).put rfl) (ff3.mv (by rw [e1, rd_j (by decide)]) (by rw [e1, rd_j (by decide)]))
      | none =>
      obtain ⟨p5, p6⟩ := sig_ok g1a.2.1 hg
      generalize hA5 : (sig N Y 41 a1).2 = a5 at p5 p6
      refine Or.inr ⟨a5, n1, C1, g1.wk (by omega) (by omega) p6, fun D X hD => ?_, fun D X hD => ?_⟩
      · intro w Q hT hf hc h
        obtain ⟨d, rfl, hd2⟩ := hD12 D hD
        refine kin2 d X w Q hT hf (fun u fu tu ffu => uc (d + 11) X (hDS d hd2) u _ tu ffu (hc.T hl fu) (fun u2 f2 t2 ff2 c2 => K_need (d := d + 8) (c := 41) (by decide) t2 ff2 (fun u3 a' f3 t3 ha ff3 => ?_)))
        rw [hg] at ff3
        have ha := ha rfl
        rw [hA5] at ha
        subst ha
        rw [s_Vn]
        exact h u3 (((aLw_T fu).trans f2).trans (aLw_T f3)) t3 ff3 (c2.T hl f3)
      · intro w Q hT hf h7 hc h
        obtain ⟨d, rfl, hd2⟩ := hD12 D hD
        refine ein2 d X w Q hT hf h7 hc (fun u fu tu ffu ou cu => ur (d + 11) X (hDS d hd2) u _ tu ffu ou cu (fun u2 f2 t2 ff2 o2 c2 => R_sign (d := d + 9) (c := 41) (by decide) (by decide) t2 ff2 (fun u3 a' f3 t3 ha ff3 => ?_)))
        have ha := ha hg
        rw [hg] at ff3
        rw [hA5] at ha
        subst ha
        intro w13 e13
        have ff3 : fR none u3 := ff3
        have o3 := o7 f3 o2
        have e13' : w13 = q_wI u3 79 7 (nI o) := by
          rw [e13, o3]
          congr 1
          have h1 : nI (o + 1) - nI 1 = nI (o + 1 - 1) := pk_sub (by omega)
          exact h1
        have g13 : ∀ i j, ¬ (i = 79 ∧ j = 7) → w13.1 i j = u3.1 i j := fun i j q => by rw [e13', rd_ne q]
        rw [s_Vn]
        exact h w13 (by rw [e13']; exact (((fu.trans f2).trans (aRl_x f3))).put rfl) (t3.g (fun i j q => g13 i j (by omega))) (ff3.mv (g13 _ _ (by omega)) (g13 _ _ (by omega))) (by rw [e13', rd_s]) ((c2.x f3).g (fun i j q => g13 i j (by omega)))
    · have ho6' : o = 6 := by omega
      refine Or.inl ⟨(3, sk N Y a), fun D X hD => ?_, fun D X hD => ?_⟩
      · intro w Q hT hf hc h
        obtain ⟨d, rfl, hd2⟩ := hD12 D hD
        refine kin d X w Q hT hf (fun u fu tu ffu su => K_mayOpen6 (d := d + 9) ho6 (by omega) su (by omega) ffu (fun u2 f2 g2 ff2 => ⟨fun _ => ?_, fun z => absurd rfl z⟩))
        rw [s_Vn]
        exact h u2 (aLw_T (fu.trans f2)) (sbd.of ff2 (tu.mv f2 (g2.trans tu.2.2.2.1) tu.2.1) (hc.T hl (fu.trans f2)))
      · intro w Q hT hf h7 hc h
        obtain ⟨d, rfl, hd2⟩ := hD12 D hD
        rw [ho6'] at h7
        exact ein d X w Q hT hf (fun u fu tu ffu => R_opens6 (d := d + 9) (b := 1) tu ffu (o7 fu h7) (fun u2 f2 ff2 => R_sumB (d := d + 7) ff2 (eend _ d X u2 Q ff2 (fun u3 f3 b3 => h u3 (((aRl_x fu).trans f2).trans f3) b3))))
  -- words
  have pairU : ∀ b code, sk N Y a + b = rn N (pL Y) (sk N Y a) → 0 < b → (code = 2006 ∨ code = 2007) →
      (∃ y, (∀ d X, DU o ≤ d + 12 → ∀ (w : q_Sm) (Q : q_Sm → Prop), tC N Y (sk N Y a + b) w → w.1 2 4 = nI (sk N Y a) → fC none w → lc l n C w → (∀ u, fr (aLw l) w u → sbd l N Y y u → Q u) → s_EvV (d + 11) 0 mX5_readPair w [.ref l, .ref 2, .int (nI o), .int (cc code)] Q X) ∧ (∀ d X, DU o ≤ d + 12 → eE N Y o (sk N Y a) n C y (fun w Q => s_EvV (d + 11) 0 mX12_readTwo w [.ref 79, .int (nI b), .int (nI (r1 code))] Q X))) ∨
      (∃ a' n' C', gd N a n C a' n' C' ∧ (∀ d X, DU o ≤ d + 12 → ∀ (w : q_Sm) (Q : q_Sm → Prop), tC N Y (sk N Y a + b) w → w.1 2 4 = nI (sk N Y a) → fC none w → lc l n C w → (∀ u, fr (aLw l) w u → tC N Y a' u → fC none u → lc l n' C' u → Q u) → s_EvV (d + 11) 0 mX5_readPair w [.ref l, .ref 2, .int (nI o), .int (cc code)] Q X) ∧ (∀ d X, DU o ≤ d + 12 → eO N Y o (sk N Y a) n C a' n' C' (fun w Q => s_EvV (d + 11) 0 mX12_readTwo w [.ref 79, .int (nI b), .int (nI (r1 code))] Q X))) := by
    intro b code hrn hb hcode
    have hrb := (rn_b (N := N) (p := pL Y) hsN).2.1
    by_cases ho6 : o < 6
    · rcases pair_of (s := sk N Y a) (b := b) (code := code) (Y := Y) (C := C) hl hN ho6 (by omega) hb (by omega) hd hcode (fun a1 n1 C1 h1 h2 h3 h4 => S ho6 a1 n1 C1 (by omega) h2 h3 h4) with ⟨y, uc, ur⟩ | ⟨a1, n1, C1, g1, uc, ur⟩
      · exact Or.inl ⟨y, fun d X hD w Q hT _ hf hc h => uc (d + 11) X (by omega) w Q hT hf hc h, fun d X hD => ur (d + 11) X (by omega)⟩
      · exact Or.inr ⟨a1, n1, C1, g1.wk (by omega) (Nat.le_refl _) g1.1.2.1, fun d X hD w Q hT _ hf hc h => uc (d + 11) X (by omega) w Q hT hf hc h, fun d X hD => ur (d + 11) X (by omega)⟩
    · have ho6' : o = 6 := by omega
      refine Or.inl ⟨(3, sk N Y a), fun d X hD w Q hT h4 hf hc h => ?_, fun d X hD => ?_⟩
      · apply eX5_readPair
        unfold vX5_readPair_0
        refine K_mayOpen6 (d := d + 8) ho6 (by omega) h4 (by omega) hf (fun u2 f2 g2 ff2 => ⟨fun _ => ?_, fun z => absurd rfl z⟩)
        rw [s_Vn]
        exact h u2 (aLw_T f2) (sbd.of ff2 (hT.mv f2 (g2.trans hT.2.2.2.1) hT.2.1) (hc.T hl f2))
      · intro w Q hT hf h7 hc h
        rw [ho6'] at h7
        apply eX12_readTwo
        unfold vX12_readTwo_0
        refine R_opens6 (d := d + 8) hT hf h7 (fun u2 f2 ff2 => R_signB (d := d + 8) ff2 (R_sumB (d := d + 6) ff2 (R_signB (d := d + 8) ff2 (R_sumB (d := d + 6) ff2 (R_signB (d := d + 8) ff2 ?_)))))
        intro w1 e1
        have f1 : fR (some (3, sk N Y a)) w1 := ff2.mv (by rw [e1, rd_j (by decide)]) (by rw [e1, rd_j (by decide)])
        refine R_emitB (d := d + 8) f1 ?_
        rw [s_Vn]
        exact h w1 (by rw [e1]; exact f2.put rfl) f1
  have hrg := (rn_b (N := N) (p := pL Y) hsN).1
  have hrl := (rn_b (N := N) (p := pL Y) hsN).2.1
  have vn : ∀ {Q : q_Sm → Prop} {w : q_Sm}, Q w → s_V Q none w := fun h => by rw [s_Vn]; exact h
  -- a pair, once it is known which
  have pr : ∀ b code r, (r = 12 ∧ b = 5 ∧ code = 2006) ∨ (r = 13 ∧ b = 4 ∧ code = 2007 ∧ ¬ wA N Y (sk N Y a) 12) → wA N Y (sk N Y a) r → outU l N Y o a n C := by
    intro b code r hbc hw
    have hlen : sk N Y a + b = rn N (pL Y) (sk N Y a) := by
      have h1 := hw.1
      have h2 : sLn 12 = 5 := by decide
      have h3 : sLn 13 = 4 := by decide
      rcases hbc with ⟨e1, e2, _⟩ | ⟨e1, e2, _⟩ <;> (rw [e1] at h1; omega)
    have kin : ∀ d X (w : q_Sm) (Q : q_Sm → Prop), tC N Y a w → fC none w → (∀ u, fr aTx w u → tC N Y (sk N Y a + b) u → u.1 2 4 = nI (sk N Y a) → fC none u → s_EvV (d + 11) 0 mX5_readPair u [.ref l, .ref 2, .int (nI o), .int (cc code)] (fun u => s_V Q none u) X) → s_EvV (d + 12) 0 mX5_readUnit w [.ref l, .ref 2, .int (nI o)] Q X := by
      intro d X w Q hT hf h
      refine K_unitIn hT hf hdg hpa (fun u fu tu ffu su => ?_)
      have hx := h u fu (by rw [hlen]; exact tu) su ffu
      rcases hbc with ⟨e1, e2, e3⟩ | ⟨e1, e2, e3, e4⟩
      · rw [e1] at hw
        rw [e3] at hx
        exact K_was (d := d + 6) (by decide) hsN tu su (fun _ => ⟨fun z => absurd z (by decide), fun _ => ⟨ic_0 hl, hx⟩⟩) (fun z => absurd hw z)
      · rw [e1] at hw
        rw [e3] at hx
        exact K_was (d := d + 6) (by decide) hsN tu su (fun z => absurd z e4) (fun _ => ⟨fun _ => K_was (d := d + 6) (by decide) hsN tu su (fun _ => ⟨fun z => absurd z (by decide), fun _ => ⟨ic_0 hl, hx⟩⟩) (fun z => absurd hw z), fun z => absurd rfl z⟩)
    have ein : ∀ d X (w : q_Sm) (Q : q_Sm → Prop), tR N Y a w → fR none w → (∀ u, fr aRx w u → tR N Y (sk N Y a) u → fR none u → s_EvV (d + 11) 0 mX12_readTwo u [.ref 79, .int (nI b), .int (nI (r1 code))] (fun u => s_V Q none u) X) → s_EvV (d + 12) 0 mX12_readUnit w [.ref 79] Q X := by
      intro d X w Q hT hf h
      rcases hbc with ⟨e1, e2, e3⟩ | ⟨e1, e2, e3, e4⟩
      · rw [e1] at hw
        rw [e2, e3] at h
        exact R_unitIn hT hf hdg hpa (fun _ => h) (fun z => absurd hw z) (fun z => absurd hw z) (fun _ z => absurd hw z)
      · rw [e1] at hw
        rw [e2, e3] at h
        exact R_unitIn hT hf hdg hpa (fun z => absurd z e4) (fun _ _ => h) (fun _ z => absurd hw z) (fun _ _ z => absurd hw z)
    rcases pairU b code hlen (by omega) (by omega) with ⟨y, uc, ur⟩ | ⟨a1, n1, C1, g1, uc, ur⟩
    · refine Or.inl ⟨y, fun D X hD => ?_, fun D X hD => ?_⟩
      · intro w Q hT hf hc h
        obtain ⟨d, rfl, hd2⟩ := hD12 D hD
        exact kin d X w Q hT hf (fun u fu tu su ffu => uc d X hd2 u _ tu su ffu (hc.T hl fu) (fun u2 f2 b2 => vn (h u2 ((aLw_T fu).trans f2) b2)))
      · intro w Q hT hf h7 hc h
        obtain ⟨d, rfl, hd2⟩ := hD12 D hD
        exact ein d X w Q hT hf (fun u fu tu ffu => ur d X hd2 u _ tu ffu (o7 fu h7) (hc.x fu) (fun u2 f2 b2 => vn (h u2 ((aRl_x fu).trans f2) b2)))
    · refine Or.inr ⟨a1, n1, C1, g1, fun D X hD => ?_, fun D X hD => ?_⟩
      · intro w Q hT hf hc h
        obtain ⟨d, rfl, hd2⟩ := hD12 D hD
        exact kin d X w Q hT hf (fun u fu tu su ffu => uc d X hd2 u _ tu su ffu (hc.T hl fu) (fun u2 f2 t2 ff2 c2 => vn (h u2 ((aLw_T fu).trans f2) t2 ff2 c2)))
      · intro w Q hT hf h7 hc h
        obtain ⟨d, rfl, hd2⟩ := hD12 D hD
        exact ein d X w Q hT hf (fun u fu tu ffu => ur d X hd2 u _ tu ffu (o7 fu h7) (hc.x fu) (fun u2 f2 t2 ff2 o2 c2 => vn (h u2 ((aRl_x fu).trans f2) t2 ff2 o2 c2)))
  by_cases hw1 : wA N Y (sk N Y a) 12
  · exact pr 5 2006 12 (Or.inl ⟨rfl, rfl, rfl⟩) hw1
  by_cases hw2 : wA N Y (sk N Y a) 13
  · exact pr 4 2007 13 (Or.inr ⟨rfl, rfl, rfl, hw1⟩) hw2
  have kin : ∀ d X (w : q_Sm) (Q : q_Sm → Prop), tC N Y a w → fC none w → (∀ u, fr aTx w u → tC N Y (rn N (pL Y) (sk N Y a)) u → fC none u → u.1 2 4 = nI (sk N Y a) → s_EvV (d + 11) 0 mX5_readName u [.ref (l), .ref (2)] (fun u12 => s_V Q none u12) X) → s_EvV (d + 12) 0 mX5_readUnit w [.ref l, .ref 2, .int (nI o)] Q X := by
    intro d X w Q hT hf h
    refine K_unitIn hT hf hdg hpa (fun u fu tu ffu su => ?_)
    exact K_was (d := d + 6) (by decide) hsN tu su (fun z => absurd z hw1) (fun _ => ⟨fun _ => K_was (d := d + 6) (by decide) hsN tu su (fun z => absurd z hw2) (fun _ => ⟨fun _ => ⟨ic_0 hl, h u fu tu ffu su⟩, fun z => absurd rfl z⟩), fun z => absurd rfl z⟩)
  cases hfc : fcW N Y (sk N Y a) with
  | none =>
    refine Or.inl ⟨(1, sk N Y a), fun D X hD => ?_, fun D X hD => ?_⟩
    · intro w Q hT hf hc h
      obtain ⟨d, rfl, hd2⟩ := hD12 D hD
      refine kin d X w Q hT hf (fun u fu tu ffu su => K_readName (d := d + 5) hl hsN tu su (fun k x _ z _ => by rw [hfc] at z; simp at z) (fun _ => ?_))
      refine K_blame (k := 1) (d := d + 9) ffu (by decide) (by decide) (by omega) (fun u2 g1 g2 g3 g4 => vn ?_)
      exact h u2 (aLw_T (fu.trans g1)) (sbd.of g4 (tu.mv g1 (g2.trans tu.2.2.2.1) tu.2.1) (hc.T hl (fu.trans g1)))
    · intro w Q hT hf h7 hc h
      obtain ⟨d, rfl, hd2⟩ := hD12 D hD
      exact R_unitIn hT hf hdg hpa (fun z => absurd z hw1) (fun _ z => absurd z hw2) (fun _ _ _ u fu ffu => h u (aRl_x fu) ffu) (fun k _ _ z => by rw [hfc] at z; simp at z)
  | some k =>
    have hk := fcW_le hfc
    have hpos : sk N Y a < rn N (pL Y) (sk N Y a) := by
      have hne : ∃ r, r < 51 ∧ wA N Y (sk N Y a) r := by
        unfold fcW at hfc
        by_cases z : wA N Y (sk N Y a) 14
        · exact ⟨14, by decide, z⟩
        rw [@if_neg _ (Classical.propDecidable _) z] at hfc
        by_cases z : wA N Y (sk N Y a) 15
        · exact ⟨15, by decide, z⟩
        rw [@if_neg _ (Classical.propDecidable _) z] at hfc
        by_cases z : wA N Y (sk N Y a) 16
        · exact ⟨16, by decide, z⟩
        rw [@if_neg _ (Classical.propDecidable _) z] at hfc
        by_cases z : wA N Y (sk N Y a) 17
        · exact ⟨17, by decide, z⟩
        rw [@if_neg _ (Classical.propDecidable _) z] at hfc
        by_cases z : wA N Y (sk N Y a) 18
        · exact ⟨18, by decide, z⟩
        rw [@if_neg _ (Classical.propDecidable _) z] at hfc
        by_cases z : wA N Y (sk N Y a) 19
        · exact ⟨19, by decide, z⟩
        rw [@if_neg _ (Classical.propDecidable _) z] at hfc
        by_cases z : wA N Y (sk N Y a) 20
        · exact ⟨20, by decide, z⟩
        rw [@if_neg _ (Classical.propDecidable _) z] at hfc
        simp at hfc
      obtain ⟨r, hr, hwr⟩ := hne
      have := hwr.1
      have := (sL_le r hr).2
      omega
    refine Or.inr ⟨rn N (pL Y) (sk N Y a), n + 1, up C n (1000 + k), gd_one (by omega) hrl (by omega) (by omega), fun D X hD => ?_, fun D X hD => ?_⟩
    · intro w Q hT hf hc h
      obtain ⟨d, rfl, hd2⟩ := hD12 D hD
      refine kin d X w Q hT hf (fun u fu tu ffu su => K_readName (d := d + 5) hl hsN tu su (fun k' x _ z hx => ?_) (fun z => by rw [hfc] at z; simp at z))
      rw [hfc] at z
      simp at z
      subst z
      exact K_emit (d := d + 9) hl hx (by omega) tu ffu (hc.T hl fu) (fun u2 f2 t2 ff2 c2 => vn (h u2 ((aLw_T fu).trans f2) t2 ff2 c2))
    · intro w Q hT hf h7 hc h
      obtain ⟨d, rfl, hd2⟩ := hD12 D hD
      refine R_unitIn hT hf hdg hpa (fun z => absurd z hw1) (fun _ z => absurd z hw2) (fun _ _ z => by rw [hfc] at z; simp at z) (fun k' _ _ z u fu tu ffu => ?_)
      rw [hfc] at z
      simp at z
      subst z
      refine R_emit (d := d + 9) (c := 1000 + k) (by omega) ?_ (fun _ => ?_) tu ffu (o7 fu h7) (hc.x fu) (fun u2 f2 t2 ff2 o2 c2 => vn (h u2 ((aRl_x fu).trans f2) t2 ff2 o2 c2))
      · unfold r1; rw [if_neg (by omega), if_pos (by omega)]; rfl
      · unfold r2; rw [if_neg (by omega), show 1000 + k - 1000 = k by omega]
theorem law_all {l N : Nat} {Y : Nat → Nat} (hl : l = 36 ∨ l = 40) (hN : N ≤ 150) : ∀ m o a n C, N - a < m → a ≤ N → o ≤ 6 → n ≤ a → dp C n ≤ 3 * o → outS l N Y o a n C := by
  intro m
  induction m with
  | zero => intro o a n C h; omega
  | succ m ih =>
    intro o a n C hm ha ho hn hd
    have hU : ∀ a1 n1 C1, a ≤ a1 → a1 ≤ N → n1 ≤ a1 → dp C1 n1 ≤ 3 * o + 2 → outU l N Y o a1 n1 C1 := fun a1 n1 C1 h1 h2 h3 h4 => unit_of hl hN ho h2 h3 h4 (fun h6 a2 n2 C2 g1 g2 g3 g4 => ih (o + 1) a2 n2 C2 (by omega) g2 (by omega) g3 g4)
    exact sum_of hl hN ho ha hn hd (fun a1 n1 C1 h1 h2 h3 h4 => prod_of hl hN ho h2 h3 h4 (fun a2 n2 C2 g1 g2 g3 g4 => hU a2 n2 C2 (by omega) g2 g3 g4))
