/-! the whole text of a work -/
def wkE (d : Nat) (Q : s_Po) (X : s_Xo) (u : q_Sm) : Prop := s_EvI d 0 mX12_result u [.ref (79), .int (0)] (fun v32 u33 => (((u33.1 79 5) = (-1)) → s_EvV d 0 mX12_copies u33 [.ref (79), .ref (102), .ref (103), .int (u33.1 79 44)] (fun u35 => s_Ex (d + 1) 0 mX12_work 123 [some (.ref (79)), none, none, some (.int (0))] [] u35 Q X) X) ∧ (¬ ((u33.1 79 5) = (-1)) → Q (some (.int (v32))) u33)) X
theorem K_readB {d N r c : Nat} {Y : Nat → Nat} {y : Nat × Nat} {X : s_Xo} {w : q_Sm} {Q : q_Sm → Prop} (hc : c < 150) (hb : sbw N Y y w) (h : ∀ u, fr aWk w u → sbw N Y y u → Q u) : s_Ex (d + 3) 0 mX9_read 7 [some (.ref 52), some (.ref 2), some (.ref r), some (.int (nI c))] [] w (s_V Q) X := by
  obtain ⟨hf, a, hT⟩ := id hb
  apply xX9_read_7
  unfold vX9_read_7
  rw [L_150, nI_leI (by omega) (by omega)]
  refine ⟨fun z => absurd z (by omega), fun _ => K_goesOn (d := d) hT hf (fun u _ _ _ z _ => by simp at z) (fun u fu tu ffu _ => ⟨fun _ => ?_, fun z => absurd rfl z⟩)⟩
  rw [s_Vn]
  exact h u (aWk_T fu) ⟨ffu, _, tu⟩
theorem R_68B {d : Nat} {y : Nat × Nat} {X : s_Xo} {w : q_Sm} {Q : s_Po} (hf : fR (some y) w) (h : wkE (d + 2) Q X w) : s_Ex (d + 3) 0 mX12_work 68 [some (.ref 79), none, none, none] [] w Q X := by
  apply xX12_work_68
  unfold vX12_work_68
  exact R_fine hf (fun z => by simp at z) (fun _ => ⟨fun _ => h, fun z => absurd rfl z⟩)
def outM (r : Nat) (T : Tb) (N : Nat) (Y : Nat → Nat) (c a n : Nat) (kd fs sc : Nat → Nat) : Prop :=
  (∃ y, (∀ D X, DT 0 ≤ D → ∀ (w : q_Sm) (Q : q_Sm → Prop), tC N Y a w → fC none w → cg r T kd fs sc n w → (∀ u, fr aWk w u → sbw N Y y u → Q u) → s_Ex (D + 1) 0 mX9_read 7 [some (.ref 52), some (.ref 2), some (.ref r), some (.int (nI c))] [] w (s_V Q) X) ∧
    (∀ D X, DT 0 ≤ D → ∀ (w : q_Sm) (Q : s_Po), tR N Y a w → fR none w → w.1 79 7 = nI 0 → rg T kd fs sc n w → (∀ u, fr aRk w u → fR (some y) u → wkE D Q X u) → s_Ex (D + 1) 0 mX12_work 68 [some (.ref 79), none, none, none] [] w Q X)) ∨
  (∃ a' n' kd' fs' sc', gwk T N 0 a n kd fs sc a' n' kd' fs' sc' ∧
    (∀ D X, DT 0 ≤ D → ∀ (w : q_Sm) (Q : q_Sm → Prop), tC N Y a w → fC none w → cg r T kd fs sc n w → (∀ u, fr aWk w u → fC none u → cg r T kd' fs' sc' n' u → Q u) → s_Ex (D + 1) 0 mX9_read 7 [some (.ref 52), some (.ref 2), some (.ref r), some (.int (nI c))] [] w (s_V Q) X) ∧
    (∀ D X, DT 0 ≤ D → ∀ (w : q_Sm) (Q : s_Po), tR N Y a w → fR none w → w.1 79 7 = nI 0 → rg T kd fs sc n w → (∀ u, fr aRk w u → fR none u → rg T kd' fs' sc' n' u → wkE D Q X u) → s_Ex (D + 1) 0 mX12_work 68 [some (.ref 79), none, none, none] [] w Q X))
theorem K_7N {d N r c a : Nat} {Y : Nat → Nat} {X : s_Xo} {w : q_Sm} {Q : q_Sm → Prop} (hc : c < 150) (hT : tC N Y a w) (hf : fC none w) (hb : sk N Y a < N)
    (h : ∀ u, fr aTx w u → tC N Y (sk N Y a) u → fC none u → s_EvV (d + 2) 0 mX9_readStep u [.ref 52, .ref 2, .ref r, .int (nI 0)] (fun u5 => s_EvV (d + 2) 0 mX10_need u5 [.ref 2, .int (nI 59)] (fun u7 => s_Ex (d + 3) 0 mX9_read 7 [some (.ref 52), some (.ref 2), some (.ref r), some (.int (nI (c + 1)))] [] u7 (s_V Q) X) X) X) : s_Ex (d + 3) 0 mX9_read 7 [some (.ref 52), some (.ref 2), some (.ref r), some (.int (nI c))] [] w (s_V Q) X := by
  apply xX9_read_7
  unfold vX9_read_7
  rw [L_150, nI_leI (by omega) (by omega), nI_1 c]
  exact ⟨fun z => absurd z (by omega), fun _ => K_goesOn (d := d) hT hf (fun u fu tu ffu _ _ => ⟨fun z => absurd z (by decide), fun _ => h u fu tu ffu⟩) (fun u fu tu ffu z => absurd hb (z rfl))⟩
theorem R_68N {d N a : Nat} {Y : Nat → Nat} {X : s_Xo} {w : q_Sm} {Q : s_Po} (hT : tR N Y a w) (hf : fR none w) (hb : sk N Y a < N)
    (h : ∀ u, fr aRx w u → tR N Y (sk N Y a) u → fR none u → s_EvV (d + 2) 0 mX12_readStep u [.ref 79] (fun u43 => s_Ex (d + 3) 0 mX12_work 68 [some (.ref 79), none, none, none] [] u43 Q X) X) : s_Ex (d + 3) 0 mX12_work 68 [some (.ref 79), none, none, none] [] w Q X := by
  apply xX12_work_68
  unfold vX12_work_68
  exact R_fine hf (fun _ => ⟨fun z => absurd z (by decide), fun _ => R_isMore (d := d) hT hf (fun u fu tu ffu _ => ⟨fun z => absurd z (by decide), fun _ => h u fu tu ffu⟩) (fun u fu tu ffu z => absurd hb z)⟩) (fun z => absurd rfl z)
theorem top_of {r N : Nat} {T : Tb} {Y : Nat → Nat} (hr : r = 4 ∨ r = 20) (ht : tb T) (hN : N ≤ 150) : ∀ m a n kd fs sc c, N - a < m → a ≤ N → 5 * n ≤ a → 5 * c ≤ a → outM r T N Y c a n kd fs sc := by
  intro m
  induction m with
  | zero => intro a n kd fs sc c h; omega
  | succ m ih =>
    intro a n kd fs sc c hm ha h5 hc
    have hsN := sk_le (Y := Y) ha
    have hsg := sk_ge (Y := Y) ha
    have hDD : ∀ D, DT 0 ≤ D → ∃ d, D = d + 2 := fun D h => ⟨D - 2, by unfold DT at h; omega⟩
    by_cases hb : sk N Y a < N
    · rcases step_all (Y := Y) hr ht hN (N + 1) 0 (sk N Y a) n kd fs sc (by omega) hsN (by omega) (by omega) with ⟨y, uc, ur⟩ | ⟨a', n', kd', fs', sc', g1, uc, ur⟩
      · refine Or.inl ⟨y, fun D X hD w Q hT hf hg h => ?_, fun D X hD w Q hT hf h7 hg h => ?_⟩
        · obtain ⟨d, rfl⟩ := hDD D hD
          refine K_7N (d := d) (by omega) hT hf hb (fun u fu tu ffu => uc (d + 2) X hD u _ tu ffu (hg.T hr fu) (fun u2 f2 b2 => ?_))
          exact K_readB (d := d) (by omega) b2 (fun u3 f3 b3 => h u3 (((aWk_T fu).trans f2).trans f3) b3)
        · obtain ⟨d, rfl⟩ := hDD D hD
          refine R_68N (d := d) hT hf hb (fun u fu tu ffu => ur (d + 2) X hD u _ tu ffu ((fu.2 79 7 (aRx_n (by omega))).trans h7) (hg.x fu) (fun u2 f2 b2 => ?_))
          exact R_68B (d := d) b2 (h u2 ((aRk_x fu).trans f2) b2)
      · have g1' := g1
        obtain ⟨⟨q1, q2⟩, ⟨q3, q4⟩, q5, q6⟩ := g1
        rcases ih a' n' kd' fs' sc' (c + 1) (by omega) q2 q4 (by omega) with ⟨y, vc, vr⟩ | ⟨a2, n2, kd2, fs2, sc2, g2, vc, vr⟩
        · refine Or.inl ⟨y, fun D X hD w Q hT hf hg h => ?_, fun D X hD w Q hT hf h7 hg h => ?_⟩
          · obtain ⟨d, rfl⟩ := hDD D hD
            refine K_7N (d := d) (by omega) hT hf hb (fun u fu tu ffu => uc (d + 2) X hD u _ tu ffu (hg.T hr fu) (fun u2 f2 t2 ff2 c2 => ?_))
            exact vc (d + 2) X hD u2 Q t2 ff2 c2 (fun u3 f3 b3 => h u3 (((aWk_T fu).trans f2).trans f3) b3)
          · obtain ⟨d, rfl⟩ := hDD D hD
            refine R_68N (d := d) hT hf hb (fun u fu tu ffu => ur (d + 2) X hD u _ tu ffu ((fu.2 79 7 (aRx_n (by omega))).trans h7) (hg.x fu) (fun u2 f2 t2 ff2 o2 c2 => ?_))
            exact vr (d + 2) X hD u2 Q t2 ff2 o2 c2 (fun u3 f3 b3 => h u3 (((aRk_x fu).trans f2).trans f3) b3)
        · have g0 : gwk T N 0 a n kd fs sc a2 n2 kd2 fs2 sc2 := by
            have := g1'.tr g2
            exact ⟨⟨by have := this.1.1; omega, this.1.2⟩, this.2⟩
          refine Or.inr ⟨a2, n2, kd2, fs2, sc2, g0, fun D X hD w Q hT hf hg h => ?_, fun D X hD w Q hT hf h7 hg h => ?_⟩
          · obtain ⟨d, rfl⟩ := hDD D hD
            refine K_7N (d := d) (by omega) hT hf hb (fun u fu tu ffu => uc (d + 2) X hD u _ tu ffu (hg.T hr fu) (fun u2 f2 t2 ff2 c2 => ?_))
            exact vc (d + 2) X hD u2 Q t2 ff2 c2 (fun u3 f3 ff3 c3 => h u3 (((aWk_T fu).trans f2).trans f3) ff3 c3)
          · obtain ⟨d, rfl⟩ := hDD D hD
            refine R_68N (d := d) hT hf hb (fun u fu tu ffu => ur (d + 2) X hD u _ tu ffu ((fu.2 79 7 (aRx_n (by omega))).trans h7) (hg.x fu) (fun u2 f2 t2 ff2 o2 c2 => ?_))
            exact vr (d + 2) X hD u2 Q t2 ff2 o2 c2 (fun u3 f3 ff3 c3 => h u3 (((aRk_x fu).trans f2).trans f3) ff3 c3)
    · refine Or.inr ⟨a, n, kd, fs, sc, ⟨⟨by omega, ha⟩, ⟨by omega, h5⟩, fun i hi => ⟨rfl, rfl, rfl⟩, fun i z1 z2 => absurd z2 (by omega)⟩, fun D X hD w Q hT hf hg h => ?_, fun D X hD w Q hT hf h7 hg h => ?_⟩
      · obtain ⟨d, rfl⟩ := hDD D hD
        apply xX9_read_7
        unfold vX9_read_7
        rw [L_150, nI_leI (by omega) (by omega)]
        refine ⟨fun z => absurd z (by omega), fun _ => K_goesOn (d := d) hT hf (fun u _ _ _ _ z => absurd z hb) (fun u fu tu ffu _ => ⟨fun _ => ?_, fun z => absurd rfl z⟩)⟩
        rw [s_Vn]
        exact h u (aWk_T fu) ffu (hg.T hr fu)
      · obtain ⟨d, rfl⟩ := hDD D hD
        apply xX12_work_68
        unfold vX12_work_68
        exact R_fine hf (fun _ => ⟨fun z => absurd z (by decide), fun _ => R_isMore (d := d) hT hf (fun u fu tu ffu z => absurd z hb) (fun u fu tu ffu _ => ⟨fun _ => h u (aRk_x fu) ffu (hg.x fu), fun z => absurd rfl z⟩)⟩) (fun z => absurd rfl z)
/-- the row is laid up ahead of the work -/
theorem R_past {d np : Nat} {X : s_Xo} {w : q_Sm} {Q : s_Po} (hnp : np < 16) (h45 : w.1 79 45 = nI np)
    (h : ∀ u, fr (fun i _ => i == 106) w u → (∀ k, k < 63 → u.1 106 (63 * np + k) = w.1 104 k) → (∀ k, k < 63 * np → u.1 106 k = w.1 106 k) → ∀ w_44 : q_Sm, w_44 = q_wI u 79 45 (nI (np + 1)) → s_EvV (d + 1) 0 mX12_take w_44 [.ref (79)] (fun u46 => ∀ w_47 : q_Sm, w_47 = q_wI u46 79 47 0 → ∀ w_48 : q_Sm, w_48 = q_wI w_47 79 48 0 → ∀ w_49 : q_Sm, w_49 = q_wI w_48 79 49 0 → s_EvV (d + 1) 0 mX12_goesSteps w_49 [.ref (79), .int (0), .int (w_49.1 79 44)] (fun u51 => s_EvV (d + 1) 0 mX12_copies u51 [.ref (79), .ref (105), .ref (104), .int (63)] (fun u53 => ∀ w_54 : q_Sm, w_54 = q_wI u53 79 46 (u53.1 79 49) → Q (some (.int (w_54.1 79 48))) w_54) X) X) X) : s_Ex (d + 2) 0 mX12_work 123 [some (.ref 79), none, none, some (.int (nI 0))] [] w Q X := by
  have loop : ∀ k, k ≤ 63 → ∀ u, fr (fun i _ => i == 106) w u → (∀ j, j < k → u.1 106 (63 * np + j) = w.1 104 j) → (∀ j, j < 63 * np → u.1 106 j = w.1 106 j) → s_Ex (d + 2) 0 mX12_work 123 [some (.ref 79), none, none, some (.int (nI k))] [] u Q X := by
    refine n_down ?_ ?_
    · intro u f1 k1 k2
      apply xX12_work_123
      unfold vX12_work_123
      have e45 : u.1 79 45 = nI np := (f1.2 79 45 rfl).trans h45
      rw [e45, nI_1 np]
      exact ⟨fun _ => h u f1 k1 k2, fun z => absurd (nI_le (Nat.le_refl 63) (by decide)) z⟩
    · intro k hk ih u f1 k1 k2
      apply xX12_work_123
      unfold vX12_work_123
      have e45 : u.1 79 45 = nI np := (f1.2 79 45 rfl).trans h45
      have e63 : 63 * nI np + nI k = nI (63 * np + k) := by rw [show (63 : Int32) = nI 63 from rfl, pk_mul, nI_add]
      have e104 : u.1 104 k = w.1 104 k := f1.2 104 k rfl
      rw [e45, e63, nI_1 k, nI_clamp (show k < 2 ^ 31 by omega), nI_clamp (show 63 * np + k < 2 ^ 31 by omega), e104]
      refine ⟨fun z => absurd z (nI_ge hk (by decide)), fun _ => ⟨(vp_nI (by omega)).mpr hk, (vp_nI (by omega)).mpr (by omega), ?_⟩⟩
      rintro _ rfl
      refine ih _ (f1.put rfl) (fun j hj => ?_) (fun j hj => ?_)
      · by_cases q : j = k
        · rw [q, rd_s]
        · rw [rd_j (by omega)]; exact k1 j (by omega)
      · rw [rd_j (by omega)]; exact k2 j hj
  exact loop 0 (Nat.zero_le _) w (fr.refl _ _) (fun j hj => absurd hj (Nat.not_lt_zero _)) (fun _ _ => rfl)
