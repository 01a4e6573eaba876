/-! again: what stands between its brackets -/
theorem K_44E {d N r o own c a n : Nat} {T : Tb} {Y kd fs sc : Nat → Nat} {X : s_Xo} {w : q_Sm} {Q : q_Sm → Prop} (hr : r = 4 ∨ r = 20) (hc : c < 150) (ho : own < 50) (hT : tC N Y a w) (hf : fC none w) (hg : cg r T kd fs sc n w) (hb : sk N Y a < N ∧ Y (sk N Y a) = 93)
    (h : ∀ u, fr aWk w u → tC N Y (sk N Y a + 1) u → fC none u → cg r T kd fs (up sc own n) n u → Q u) : s_Ex (d + 3) 0 mX9_readAgain 44 [some (.ref 52), some (.ref 2), some (.ref r), some (.int (nI o)), some (.int (nI own)), some (.int (nI c))] [] w (s_V Q) X := by
  apply xX9_readAgain_44
  unfold vX9_readAgain_44
  rw [L_150, nI_leI (show 150 < 2 ^ 31 by decide) (show c < 2 ^ 31 by omega), nI_leI (show 150 < 2 ^ 31 by decide) (show own < 2 ^ 31 by omega), nI_clamp (show own < 2 ^ 31 by omega)]
  refine ⟨fun z => absurd z (by omega), fun _ => K_failed hf (fun z => absurd rfl z) (fun _ => ⟨fun z => absurd rfl z, fun _ => ?_⟩)⟩
  refine K_takes (d := d) (c := 93) (by decide) hT hf (fun _ _ _ u fu tu ffu => ⟨fun _ => ⟨fun z => absurd z (by omega), fun _ => ⟨(vp_nI (by omega)).mpr (by omega), ?_⟩⟩, fun z => absurd (by decide) z⟩) (fun z => absurd hb (z rfl))
  intro w1 e1
  have cu := hg.T hr fu
  rw [cu.2.1] at e1
  rw [s_Vn]
  have g : ∀ i j, ¬ (i = 55 ∧ j = own) → w1.1 i j = u.1 i j := fun i j q => by rw [e1, rd_ne q]
  refine h w1 ((aWk_T fu).trans (by rw [e1]; exact fr.wr rfl)) (tu.g (fun i j q => g i j (by omega))) (ffu.g (fun i j q => g i j (by omega))) ⟨⟨(g _ _ (by omega)).trans cu.1.1, (g _ _ (by omega)).trans cu.1.2⟩, (g _ _ (by omega)).trans cu.2.1, fun i hi => ?_⟩
  obtain ⟨p1, p2, p3⟩ := cu.2.2 i hi
  refine ⟨(g _ _ (by omega)).trans p1, (g _ _ (by omega)).trans p2, ?_⟩
  by_cases q : i = own
  · rw [q, up_s, e1, rd_s]
  · rw [up_n q, g _ _ (by omega)]
    exact p3
theorem K_44N {d N r o own c a : Nat} {Y : Nat → Nat} {X : s_Xo} {w : q_Sm} {Q : q_Sm → Prop} (hc : c < 150) (hT : tC N Y a w) (hf : fC none w) (hb : ¬ (sk N Y a < N ∧ Y (sk N Y a) = 93))
    (h : ∀ u, fr aTx w u → tC N Y (sk N Y a) u → fC none u → s_EvV (d + 2) 0 mX9_readStep u [.ref 52, .ref 2, .ref r, .int (nI (o + 1))] (fun u22 => s_EvV (d + 2) 0 mX10_need u22 [.ref 2, .int (nI 59)] (fun u24 => s_Ex (d + 3) 0 mX9_readAgain 44 [some (.ref 52), some (.ref 2), some (.ref r), some (.int (nI o)), some (.int (nI own)), some (.int (nI (c + 1)))] [] u24 (s_V Q) X) X) X) : s_Ex (d + 3) 0 mX9_readAgain 44 [some (.ref 52), some (.ref 2), some (.ref r), some (.int (nI o)), some (.int (nI own)), some (.int (nI c))] [] w (s_V Q) X := by
  apply xX9_readAgain_44
  unfold vX9_readAgain_44
  rw [L_150, nI_leI (show 150 < 2 ^ 31 by decide) (show c < 2 ^ 31 by omega), nI_1 o, nI_1 c]
  refine ⟨fun z => absurd z (by omega), fun _ => K_failed hf (fun z => absurd rfl z) (fun _ => ⟨fun z => absurd rfl z, fun _ => ?_⟩)⟩
  exact K_takes (d := d) (c := 93) (by decide) hT hf (fun _ z1 z2 => absurd ⟨z1, z2⟩ hb) (fun _ u fu tu ffu => ⟨fun z => absurd rfl z, fun _ => h u fu tu ffu⟩)
theorem R_227E {d N a n o own : Nat} {T : Tb} {Y kd fs sc : Nat → Nat} {X : s_Xo} {w : q_Sm} {Q : q_Sm → Prop} (hT : tR N Y a w) (hf : fR none w) (ho : o < 6) (h7 : w.1 79 7 = nI (o + 1)) (hg : rg T kd fs sc n w) (hb : sk N Y a < N ∧ Y (sk N Y a) = 93) (hon : own < n) (hn : n < 50) (hk : kd own = 5)
    (h : ∀ u, fr aRk w u → tRf N Y (sig N Y 59 (sk N Y a + 1)).1 (sig N Y 59 (sk N Y a + 1)).2 u → fR (sig N Y 59 (sk N Y a + 1)).1 u → u.1 79 7 = nI o → rg T kd fs (up sc own n) n u → Q u) : s_Ex (d + 3) 0 mX12_readStep 227 [some (.ref 79), none, none, some (.int (nI (3 * own)))] [] w (s_V Q) X := by
  have ha := hT.2.1
  have hsN := sk_le (Y := Y) ha
  have s93 : sig N Y 93 (sk N Y a) = (none, sk N Y a + 1) := by unfold sig; rw [sk_sk ha, if_pos hb]
  have a2 : nI (3 * own) + 2 = nI (3 * own + 2) := by rw [L_2, nI_add]
  apply xX12_readStep_227
  unfold vX12_readStep_227
  rw [a2, nI_clamp (show 3 * own + 2 < 2 ^ 31 by omega)]
  refine R_fine hf (fun _ => ⟨fun z => absurd z (by decide), fun _ => ?_⟩) (fun z => absurd rfl z)
  refine R_here (d := d + 1) hT hf (fun u1 f1 t1 ff1 => ?_)
  have hp : pk0 N Y (sk N Y a) = 93 := by unfold pk0; rw [if_pos hb.1]; exact hb.2
  rw [hp]
  refine ⟨fun _ => ?_, fun z => absurd rfl z⟩
  refine R_sign (d := d) (c := 93) (by decide) (by decide) t1 ff1 (fun u2 b2 f2 t2 hb2 ff2 => ?_)
  rw [s93] at hb2 ff2
  have hb2 : b2 = sk N Y a + 1 := hb2 rfl
  subst hb2
  have ff2 : fR none u2 := ff2
  have g2 := (hg.x f1).x f2
  have h72 : u2.1 79 7 = nI (o + 1) := by rw [f2.2 79 7 (aRx_n (by omega)), f1.2 79 7 (aRx_n (by omega))]; exact h7
  intro w3 e3
  have e3' : w3 = q_wI u2 79 7 (nI o) := by
    rw [e3, h72]
    congr 1
    have h1 : nI (o + 1) - nI 1 = nI (o + 1 - 1) := pk_sub (by omega)
    exact h1
  have g3 : ∀ i j, ¬ (i = 79 ∧ j = 7) → w3.1 i j = u2.1 i j := fun i j q => by rw [e3', rd_ne q]
  have ff3 : fR none w3 := ff2.mv (g3 _ _ (by omega)) (g3 _ _ (by omega))
  refine R_fine ff3 (fun _ => ⟨fun z => absurd z (by decide), fun _ => ⟨(vp_nI (by omega)).mpr (by omega), ?_⟩⟩) (fun z => absurd rfl z)
  intro w4 e4
  rw [g3 79 44 (by omega), g2.2.1] at e4
  have g4 : ∀ i j, ¬ (i = 102 ∧ j = 3 * own + 2) → w4.1 i j = w3.1 i j := fun i j q => by rw [e4, rd_ne q]
  have t4 : tR N Y (sk N Y a + 1) w4 := (t2.g (fun i j q => g3 i j (by omega))).g (fun i j q => g4 i j (by omega))
  have ff4 : fR none w4 := ff3.mv (g4 _ _ (by omega)) (g4 _ _ (by omega))
  have c4 : rg T kd fs (up sc own n) n w4 := by
    refine ⟨⟨((g4 _ _ (by omega)).trans (g3 _ _ (by omega))).trans g2.1.1, ((g4 _ _ (by omega)).trans (g3 _ _ (by omega))).trans g2.1.2⟩, ((g4 _ _ (by omega)).trans (g3 _ _ (by omega))).trans g2.2.1, fun i hi => ?_⟩
    obtain ⟨p1, p2, p3⟩ := g2.2.2 i hi
    refine ⟨((g4 _ _ (by omega)).trans (g3 _ _ (by omega))).trans p1, ((g4 _ _ (by omega)).trans (g3 _ _ (by omega))).trans p2, ?_⟩
    by_cases q : i = own
    · subst q
      unfold sc3
      rw [if_pos hk, up_s, e4, rd_s]
    · have : sc3 kd (up sc own n) i = sc3 kd sc i := by
        unfold sc3
        rw [up_n q]
      rw [this]
      exact ((g4 _ _ (by omega)).trans (g3 _ _ (by omega))).trans p3
  have h74 : w4.1 79 7 = nI o := by rw [g4 _ _ (by omega), e3', rd_s]
  refine S_sign (d := d) (c := 59) (by decide) (by decide) (tRf.of t4) ff4 (fun u5 f5 t5 ff5 => ?_)
  rw [orf_none] at t5 ff5
  rw [s_Vn]
  refine h u5 ?_ t5 ff5 ((f5.2 79 7 (aRx_n (by omega))).trans h74) (c4.x f5)
  have f3' : fr aRk u2 w3 := by rw [e3']; exact fr.wr rfl
  have f4' : fr aRk w3 w4 := by rw [e4]; exact fr.wr rfl
  exact (((aRk_x (f1.trans f2)).trans f3').trans f4').trans (aRk_x f5)
theorem R_227N {d N a own : Nat} {Y : Nat → Nat} {X : s_Xo} {w : q_Sm} {Q : q_Sm → Prop} (hT : tR N Y a w) (hf : fR none w) (hb : ¬ (sk N Y a < N ∧ Y (sk N Y a) = 93))
    (h : ∀ u, fr aRx w u → tR N Y (sk N Y a) u → fR none u → s_EvV (d + 2) 0 mX12_readStep u [.ref 79] (fun u98 => s_Ex (d + 3) 0 mX12_readStep 227 [some (.ref 79), none, none, some (.int (nI (3 * own)))] [] u98 (s_V Q) X) X) : s_Ex (d + 3) 0 mX12_readStep 227 [some (.ref 79), none, none, some (.int (nI (3 * own)))] [] w (s_V Q) X := by
  apply xX12_readStep_227
  unfold vX12_readStep_227
  refine R_fine hf (fun _ => ⟨fun z => absurd z (by decide), fun _ => ?_⟩) (fun z => absurd rfl z)
  refine R_here (d := d + 1) hT hf (fun u1 f1 t1 ff1 => ?_)
  have hp : pk0 N Y (sk N Y a) < 256 ∧ pk0 N Y (sk N Y a) ≠ 93 := by
    unfold pk0
    by_cases q : sk N Y a < N
    · rw [if_pos q]
      exact ⟨(t1.2.2.2.2 _ q).1, fun z => hb ⟨q, z⟩⟩
    · rw [if_neg q]
      exact ⟨by decide, by decide⟩
  rw [L_93, nI_eq (by omega) (by omega)]
  exact ⟨fun z => absurd z hp.2, fun _ => h u1 f1 t1 ff1⟩
def outL (r : Nat) (T : Tb) (N : Nat) (Y : Nat → Nat) (o own c a n : Nat) (kd fs sc : Nat → Nat) : Prop :=
  (∃ y, (∀ D D' X, DT (o + 1) ≤ D → 3 ≤ D' → ∀ (w : q_Sm) (Q : q_Sm → Prop), tC N Y a w → fC none w → cg r T kd fs sc n w → (∀ u, fr aWk w u → sbw N Y y u → Q u) → s_Ex (D + 1) 0 mX9_readAgain 44 [some (.ref 52), some (.ref 2), some (.ref r), some (.int (nI o)), some (.int (nI own)), some (.int (nI c))] [] w (s_V (fun u => s_EvV D' 0 mX10_need u [.ref 2, .int (nI 59)] Q X)) X) ∧
    (∀ D X, DT (o + 1) ≤ D → ∀ (w : q_Sm) (Q : q_Sm → Prop), tR N Y a w → fR none w → w.1 79 7 = nI (o + 1) → rg T kd fs sc n w → (∀ u, fr aRk w u → fR (some y) u → Q u) → s_Ex (D + 1) 0 mX12_readStep 227 [some (.ref 79), none, none, some (.int (nI (3 * own)))] [] w (s_V Q) X)) ∨
  (∃ a' n' kd' fs' sc', gwk T N 0 a n kd fs sc a' n' kd' fs' sc' ∧
    (∀ D D' X, DT (o + 1) ≤ D → 3 ≤ D' → ∀ (w : q_Sm) (Q : q_Sm → Prop), tC N Y a w → fC none w → cg r T kd fs sc n w → (∀ u, fr aWk w u → tC N Y a' u → fC none u → cg r T kd' fs' (up sc' own n') n' u → Q u) → s_Ex (D + 1) 0 mX9_readAgain 44 [some (.ref 52), some (.ref 2), some (.ref r), some (.int (nI o)), some (.int (nI own)), some (.int (nI c))] [] w (s_V (fun u => s_EvV D' 0 mX10_need u [.ref 2, .int (nI 59)] Q X)) X) ∧
    (∀ D X, DT (o + 1) ≤ D → ∀ (w : q_Sm) (Q : q_Sm → Prop), tR N Y a w → fR none w → w.1 79 7 = nI (o + 1) → rg T kd fs sc n w → (∀ u, fr aRk w u → tR N Y a' u → fR none u → u.1 79 7 = nI o → rg T kd' fs' (up sc' own n') n' u → Q u) → s_Ex (D + 1) 0 mX12_readStep 227 [some (.ref 79), none, none, some (.int (nI (3 * own)))] [] w (s_V Q) X))
theorem loop_of {r N o a1 own : Nat} {T : Tb} {Y : Nat → Nat} (hr : r = 4 ∨ r = 20) (hN : N ≤ 150) (ho : o < 6) (S : ∀ a2 n2 kd2 fs2 sc2, a1 ≤ a2 → a2 ≤ N → 5 * n2 ≤ a2 → outT r T N Y (o + 1) a2 n2 kd2 fs2 sc2) : ∀ m a n kd fs sc c, N - a < m → a1 ≤ a → a ≤ N → 5 * n ≤ a → 5 * c ≤ a → own < n → kd own = 5 → outL r T N Y o own c a n kd fs sc := by
  intro m
  induction m with
  | zero => intro a n kd fs sc c h; omega
  | succ m ih =>
    intro a n kd fs sc c hm h1 ha h5 hc hon hk
    have hsN := sk_le (Y := Y) ha
    have hsg := sk_ge (Y := Y) ha
    have hD3 : ∀ D, 3 ≤ D → ∃ d, D = d + 3 := fun D h => ⟨D - 3, by omega⟩
    have hDD : ∀ D, DT (o + 1) ≤ D → ∃ d, D = d + 2 := fun D h => ⟨D - 2, by unfold DT at h; omega⟩
    by_cases hb : sk N Y a < N ∧ Y (sk N Y a) = 93
    · cases hF : (sig N Y 59 (sk N Y a + 1)).1 with
      | some y =>
        refine Or.inl ⟨y, fun D D' X hD hD' w Q hT hf hg h => ?_, fun D X hD w Q hT hf h7 hg h => ?_⟩
        · obtain ⟨d, rfl⟩ := hDD D hD
          obtain ⟨d', rfl⟩ := hD3 D' hD'
          refine K_44E (d := d) hr (by omega) (by omega) hT hf hg hb (fun u fu tu ffu cu => K_need (d := d') (c := 59) (by decide) tu ffu (fun u3 a3 f3 t3 _ ff3 => ?_))
          rw [orf_none, hF] at ff3
          exact h u3 (fu.trans (aWk_T f3)) ⟨ff3, a3, t3⟩
        · obtain ⟨d, rfl⟩ := hDD D hD
          refine R_227E (d := d) hT hf ho h7 hg hb hon (by omega) hk (fun u fu tu ffu ou cu => ?_)
          rw [hF] at ffu
          exact h u fu ffu
      | none =>
        obtain ⟨p1, p2⟩ := sig_ok (show sk N Y a + 1 ≤ N by omega) hF
        refine Or.inr ⟨(sig N Y 59 (sk N Y a + 1)).2, n, kd, fs, sc, ⟨⟨by omega, p2⟩, ⟨by omega, by omega⟩, fun i hi => ⟨rfl, rfl, rfl⟩, fun i z1 z2 => absurd z2 (by omega)⟩, fun D D' X hD hD' w Q hT hf hg h => ?_, fun D X hD w Q hT hf h7 hg h => ?_⟩
        · obtain ⟨d, rfl⟩ := hDD D hD
          obtain ⟨d', rfl⟩ := hD3 D' hD'
          refine K_44E (d := d) hr (by omega) (by omega) hT hf hg hb (fun u fu tu ffu cu => K_need (d := d') (c := 59) (by decide) tu ffu (fun u3 a3 f3 t3 ha3 ff3 => ?_))
          rw [orf_none, hF] at ff3
          have ha3 := ha3 rfl
          subst ha3
          exact h u3 (fu.trans (aWk_T f3)) t3 ff3 (cu.T hr f3)
        · obtain ⟨d, rfl⟩ := hDD D hD
          refine R_227E (d := d) hT hf ho h7 hg hb hon (by omega) hk (fun u fu tu ffu ou cu => ?_)
          rw [hF] at ffu tu
          exact h u fu tu.no ffu ou cu
    · rcases S (sk N Y a) n kd fs sc (by omega) hsN (by omega) with ⟨y, uc, ur⟩ | ⟨a', n', kd', fs', sc', g1, uc, ur⟩
      · refine Or.inl ⟨y, fun D D' X hD hD' w Q hT hf hg h => ?_, fun D X hD w Q hT hf h7 hg h => ?_⟩
        · obtain ⟨d, rfl⟩ := hDD D hD
          obtain ⟨d', rfl⟩ := hD3 D' hD'
          refine K_44N (d := d) (by omega) hT hf hb (fun u fu tu ffu => uc (d + 2) X hD u _ tu ffu (hg.T hr fu) (fun u2 f2 b2 => ?_))
          refine K_44B (d := d + 1) (by omega) (by omega) b2 (fun u3 f3 b3 => K_needF (d := d') (by decide) b3 (fun u4 f4 b4 => ?_))
          exact h u4 ((((aWk_T fu).trans f2).trans f3).trans f4) b4
        · obtain ⟨d, rfl⟩ := hDD D hD
          refine R_227N (d := d) hT hf hb (fun u fu tu ffu => ur (d + 2) X hD u _ tu ffu ((fu.2 79 7 (aRx_n (by omega))).trans h7) (hg.x fu) (fun u2 f2 b2 => ?_))
          exact R_227B (d := d) b2 (fun u3 f3 b3 => h u3 (((aRk_x fu).trans f2).trans f3) b3)
      · have g1' := g1
        obtain ⟨⟨q1, q2⟩, ⟨q3, q4⟩, q5, q6⟩ := g1
        rcases ih a' n' kd' fs' sc' (c + 1) (by omega) (by omega) q2 q4 (by omega) (by omega) ((q5 own hon).1.trans hk) with ⟨y, vc, vr⟩ | ⟨a2, n2, kd2, fs2, sc2, g2, vc, vr⟩
        · refine Or.inl ⟨y, fun D D' X hD hD' w Q hT hf hg h => ?_, fun D X hD w Q hT hf h7 hg h => ?_⟩
          · obtain ⟨d, rfl⟩ := hDD D hD
            refine K_44N (d := d) (by omega) hT hf hb (fun u fu tu ffu => uc (d + 2) X hD u _ tu ffu (hg.T hr fu) (fun u2 f2 t2 ff2 c2 => ?_))
            exact vc (d + 2) D' X hD hD' u2 Q t2 ff2 c2 (fun u3 f3 b3 => h u3 (((aWk_T fu).trans f2).trans f3) b3)
          · obtain ⟨d, rfl⟩ := hDD D hD
            refine R_227N (d := d) hT hf hb (fun u fu tu ffu => ur (d + 2) X hD u _ tu ffu ((fu.2 79 7 (aRx_n (by omega))).trans h7) (hg.x fu) (fun u2 f2 t2 ff2 o2 c2 => ?_))
            exact vr (d + 2) X hD u2 Q t2 ff2 o2 c2 (fun u3 f3 b3 => h u3 (((aRk_x fu).trans f2).trans f3) b3)
        · have g0 : gwk T N 0 a n kd fs sc a2 n2 kd2 fs2 sc2 := by
            have := g1'.tr g2
            exact ⟨⟨by have := this.1.1; omega, this.1.2⟩, this.2⟩
          refine Or.inr ⟨a2, n2, kd2, fs2, sc2, g0, fun D D' X hD hD' w Q hT hf hg h => ?_, fun D X hD w Q hT hf h7 hg h => ?_⟩
          · obtain ⟨d, rfl⟩ := hDD D hD
            refine K_44N (d := d) (by omega) hT hf hb (fun u fu tu ffu => uc (d + 2) X hD u _ tu ffu (hg.T hr fu) (fun u2 f2 t2 ff2 c2 => ?_))
            exact vc (d + 2) D' X hD hD' u2 Q t2 ff2 c2 (fun u3 f3 t3 ff3 c3 => h u3 (((aWk_T fu).trans f2).trans f3) t3 ff3 c3)
          · obtain ⟨d, rfl⟩ := hDD D hD
            refine R_227N (d := d) hT hf hb (fun u fu tu ffu => ur (d + 2) X hD u _ tu ffu ((fu.2 79 7 (aRx_n (by omega))).trans h7) (hg.x fu) (fun u2 f2 t2 ff2 o2 c2 => ?_))
            exact vr (d + 2) X hD u2 Q t2 ff2 o2 c2 (fun u3 f3 t3 ff3 o3 c3 => h u3 (((aRk_x fu).trans f2).trans f3) t3 ff3 o3 c3)
