/-! again, and every step of a work's text -/
def agK (d : Nat) (Q : s_Po) (X : s_Xo) : q_Sm → Prop := fun u20 => s_EvI d 0 mX12_readNumber u20 [.ref (79), .int (0), .int (20)] (fun v21 u22 => s_EvV d 0 mX12_sign u22 [.ref (79), .int (91)] (fun u24 => s_EvV d 0 mX12_tellsStep u24 [.ref (79), .int (5), .int (v21), .int (0)] (fun u26 => s_Ex (d + 1) 0 mX12_readStep 227 [some (.ref (79)), none, none, some (.int (u24.1 79 44))] [] u26 Q X) X) X) X
theorem K_agW {d N r o a : Nat} {Y : Nat → Nat} {X : s_Xo} {w : q_Sm} {Q : q_Sm → Prop} (hn0 : ¬ wA N Y (sk N Y a) 21) (hn1 : ¬ wA N Y (sk N Y a) 22) (hn2 : ¬ wA N Y (sk N Y a) 23) (hn3 : ¬ wA N Y (sk N Y a) 24) (hn4 : ¬ wA N Y (sk N Y a) 25) (hw : wA N Y (sk N Y a) 26) (hlen : rn N (pL Y) (sk N Y a) = sk N Y a + 5) (hT : tC N Y a w) (hf : fC none w)
    (h : ∀ u, fr aTx w u → tC N Y (sk N Y a + 5) u → fC none u → u.1 2 4 = nI (sk N Y a) → s_EvV (d + 12) 0 mX9_readAgain u [.ref 52, .ref 2, .ref r, .int (nI o)] Q X) : s_EvV (d + 13) 0 mX9_readStep w [.ref 52, .ref 2, .ref r, .int (nI o)] Q X := by
  have hsN := sk_le (Y := Y) hT.2.1
  apply eX9_readStep
  unfold vX9_readStep_0
  refine K_word (d := d + 10) hT hf (fun u1 f1 t1 ff1 s1 => ?_)
  refine K_was (d := d + 7) (r := 21) (by decide) hsN t1 s1 (fun z => absurd z hn0) (fun _ => ⟨fun _ => ?_, fun z => absurd rfl z⟩)
  refine K_was (d := d + 7) (r := 22) (by decide) hsN t1 s1 (fun z => absurd z hn1) (fun _ => ⟨fun _ => ?_, fun z => absurd rfl z⟩)
  refine K_was (d := d + 7) (r := 23) (by decide) hsN t1 s1 (fun z => absurd z hn2) (fun _ => ⟨fun _ => ?_, fun z => absurd rfl z⟩)
  refine K_was (d := d + 7) (r := 24) (by decide) hsN t1 s1 (fun z => absurd z hn3) (fun _ => ⟨fun _ => ?_, fun z => absurd rfl z⟩)
  refine K_was (d := d + 7) (r := 25) (by decide) hsN t1 s1 (fun z => absurd z hn4) (fun _ => ⟨fun _ => ?_, fun z => absurd rfl z⟩)
  refine K_was (d := d + 7) (r := 26) (by decide) hsN t1 s1 (fun _ => ⟨fun z => absurd z (by decide), fun _ => ?_⟩) (fun z => absurd hw z)
  rw [hlen] at t1
  have e : (fun u20 => s_V Q none u20) = Q := funext (fun u => s_Vn)
  rw [e]
  exact h u1 f1 t1 ff1 s1
theorem R_agW {d N a : Nat} {Y : Nat → Nat} {X : s_Xo} {w : q_Sm} {Q : q_Sm → Prop} (hn0 : ¬ wA N Y (sk N Y a) 21) (hn1 : ¬ wA N Y (sk N Y a) 22) (hn2 : ¬ wA N Y (sk N Y a) 23) (hn3 : ¬ wA N Y (sk N Y a) 24) (hn4 : ¬ wA N Y (sk N Y a) 25) (hw : wA N Y (sk N Y a) 26) (hT : tR N Y a w) (hf : fR none w)
    (h : ∀ u, fr aRx w u → tR N Y (sk N Y a) u → fR none u → s_EvV (d + 12) 0 mX12_opensOne u [.ref 79, .int (nI 5)] (agK (d + 12) (s_V Q) X) X) : s_EvV (d + 13) 0 mX12_readStep w [.ref 79] Q X := by
  have hsN := sk_le (Y := Y) hT.2.1
  apply eX12_readStep
  unfold vX12_readStep_0
  refine R_word (d := d + 10) hT hf (fun u1 f1 t1 ff1 => ?_)
  refine R_isW (d := d + 7) (Y := Y) (c := 21) hsN (by decide) (by decide) wk_0 (fun x0 hx0 => ?_)
  rw [hx0]
  refine ⟨fun _ => ?_, fun z => absurd (Classical.not_not.mp z) hn0⟩
  refine R_isW (d := d + 7) (Y := Y) (c := 22) hsN (by decide) (by decide) wk_1 (fun x1 hx1 => ?_)
  rw [hx1]
  refine ⟨fun _ => ?_, fun z => absurd (Classical.not_not.mp z) hn1⟩
  refine R_isW (d := d + 7) (Y := Y) (c := 23) hsN (by decide) (by decide) wk_2 (fun x2 hx2 => ?_)
  rw [hx2]
  refine ⟨fun _ => ?_, fun z => absurd (Classical.not_not.mp z) hn2⟩
  refine R_isW (d := d + 7) (Y := Y) (c := 24) hsN (by decide) (by decide) wk_3 (fun x3 hx3 => ?_)
  rw [hx3]
  refine ⟨fun _ => ?_, fun z => absurd (Classical.not_not.mp z) hn3⟩
  refine R_isW (d := d + 7) (Y := Y) (c := 25) hsN (by decide) (by decide) wk_4 (fun x4 hx4 => ?_)
  rw [hx4]
  refine ⟨fun _ => ?_, fun z => absurd (Classical.not_not.mp z) hn4⟩
  refine R_isW (d := d + 7) (Y := Y) (c := 26) hsN (by decide) (by decide) wk_5 (fun x5 hx5 => ?_)
  rw [hx5]
  refine ⟨fun z => absurd hw z, fun _ => ?_⟩
  exact h u1 f1 t1 ff1
theorem K_agIn {d N r o n p : Nat} {T : Tb} {Y kd fs sc : Nat → Nat} {F1 : Option (Nat × Nat)} {X : s_Xo} {w : q_Sm} {Q : q_Sm → Prop} (hr : r = 4 ∨ r = 20) (h6 : o < 6) (hn : n < 50) (hT : tC N Y p w) (hf : fC none w) (hc : cg r T kd fs sc n w) (hF : orf (num N Y 0 20 p).1 (sig N Y 91 (num N Y 0 20 p).2.2).1 = F1)
    (h : ∀ u a', fr aWk w u → tC N Y a' u → fC F1 u → (F1 = none → a' = (sig N Y 91 (num N Y 0 20 p).2.2).2) → cg r T (up kd n 5) (up fs n (num N Y 0 20 p).2.1) (up sc n 0) (n + 1) u → s_Ex (d + 12) 0 mX9_readAgain 44 [some (.ref 52), some (.ref 2), some (.ref r), some (.int (nI o)), some (.int (nI n)), some (.int (nI 0))] [] u (s_V Q) X) : s_EvV (d + 12) 0 mX9_readAgain w [.ref 52, .ref 2, .ref r, .int (nI o)] Q X := by
  apply eX9_readAgain
  unfold vX9_readAgain_0
  rw [L_6, nI_ltI (by omega) (by omega), hc.2.1]
  refine ⟨fun _ => ?_, fun z => absurd h6 z⟩
  refine K_number (d := d + 9) (lo := 0) (hi := 20) (by decide) (by decide) hT hf (fun u1 f1 t1 ff1 _ => ?_)
  refine K_add (d := d + 10) (k := 5) (y := 0) hr (by omega) (hc.T hr f1) (fun u2 f2 g2 c2 => ?_)
  refine K_need (d := d + 8) (c := 91) (by decide) (t1.g g2) (ff1.g g2) (fun u3 a3 f3 t3 ha3 ff3 => ?_)
  simp only [orf_none] at ff3 ha3
  rw [hF] at ff3
  exact h u3 a3 (((aWk_T f1).trans f2).trans (aWk_T f3)) t3 ff3 (fun z => ha3 (by rw [← hF] at z; exact (orf_nn.mp z).1)) (c2.T hr f3)
theorem R_agIn {d N o n s : Nat} {T : Tb} {Y kd fs sc : Nat → Nat} {F1 : Option (Nat × Nat)} {X : s_Xo} {w : q_Sm} {Q : q_Sm → Prop} (h6 : o < 6) (hn : n < 50) (hs : s + 5 ≤ N) (hT : tR N Y s w) (hf : fR none w) (h7 : w.1 79 7 = nI o) (hc : rg T kd fs sc n w) (hF : orf (num N Y 0 20 (s + 5)).1 (sig N Y 91 (num N Y 0 20 (s + 5)).2.2).1 = F1)
    (h : ∀ u, fr aRk w u → tRf N Y F1 (sig N Y 91 (num N Y 0 20 (s + 5)).2.2).2 u → fR F1 u → u.1 79 7 = nI (o + 1) → (F1 = none → rg T (up kd n 5) (up fs n (num N Y 0 20 (s + 5)).2.1) (up sc n 0) (n + 1) u) → s_Ex (d + 13) 0 mX12_readStep 227 [some (.ref 79), none, none, some (.int (nI (3 * n)))] [] u (s_V Q) X) : s_EvV (d + 12) 0 mX12_opensOne w [.ref 79, .int (nI 5)] (agK (d + 12) (s_V Q) X) X := by
  refine R_opW (d := d + 10) h6 hs hT hf h7 hc (fun u2 f2 t2 ff2 o2 c2 => ?_)
  unfold agK
  refine S_number (d := d + 10) (lo := 0) (hi := 20) (by decide) (by decide) (tRf.of t2) ff2 (fun u3 v3 f3 t3 ff3 hv3 => ?_)
  refine S_sign (d := d + 10) (c := 91) (by decide) (by decide) t3 ff3 (fun u4 f4 t4 ff4 => ?_)
  simp only [orf_a, orf_none] at t4 ff4 hv3
  rw [hF] at t4 ff4
  have c4 := (c2.x f3).x f4
  have o4 : u4.1 79 7 = nI (o + 1) := by rw [f4.2 79 7 (aRx_n (by omega)), f3.2 79 7 (aRx_n (by omega))]; exact o2
  have fu := f2.trans (aRk_x (f3.trans f4))
  rw [c4.2.1]
  refine R_tells (d := d + 10) (k := 5) (x := (num N Y 0 20 (s + 5)).2.1) (y := 0) hn (fun _ => rfl) ff4 c4 (fun z => ⟨hv3 (by rw [← hF] at z; exact (orf_nn.mp z).1), rfl⟩) (fun z u5 f5 g5 c5 => ?_) (fun z => ?_)
  · exact h u5 (fu.trans f5) (t4.g (fun i j q => g5 i j (by omega) (by omega))) (ff4.mv (g5 _ _ (by omega) (by omega)) (g5 _ _ (by omega) (by omega))) ((g5 _ _ (by omega) (by omega)).trans o4) (fun _ => c5)
  · exact h u4 fu t4 ff4 o4 (fun q => absurd q z)
theorem again_of {r N o a n : Nat} {T : Tb} {Y kd fs sc : Nat → Nat} (hr : r = 4 ∨ r = 20) (hN : N ≤ 150) (ho : o ≤ 6) (ha : a ≤ N) (h5 : 5 * n ≤ a) (hn0 : ¬ wA N Y (sk N Y a) 21) (hn1 : ¬ wA N Y (sk N Y a) 22) (hn2 : ¬ wA N Y (sk N Y a) 23) (hn3 : ¬ wA N Y (sk N Y a) 24) (hn4 : ¬ wA N Y (sk N Y a) 25) (hw : wA N Y (sk N Y a) 26)
    (S : o < 6 → ∀ a2 n2 kd2 fs2 sc2, a + 5 ≤ a2 → a2 ≤ N → 5 * n2 ≤ a2 → outT r T N Y (o + 1) a2 n2 kd2 fs2 sc2) : outT r T N Y o a n kd fs sc := by
  have hsN := sk_le (Y := Y) ha
  have hsg := sk_ge (Y := Y) ha
  have hrb := rn_b (N := N) (p := pL Y) hsN
  have hlen : rn N (pL Y) (sk N Y a) = sk N Y a + 5 := by
    have h1 := hw.1
    have h2 : sLn 26 = 5 := by decide
    omega
  have hD : ∀ D, DT o ≤ D → ∃ d, D = d + 13 ∧ (o < 6 → DT (o + 1) ≤ d + 11) := fun D h => ⟨D - 13, by unfold DT at h; omega, fun q => by unfold DT at h ⊢; omega⟩
  by_cases h6 : o < 6
  · cases hF : orf (num N Y 0 20 (sk N Y a + 5)).1 (sig N Y 91 (num N Y 0 20 (sk N Y a + 5)).2.2).1 with
    | some y =>
      refine Or.inl ⟨y, fun D X hd w Q hT hf hc h => ?_, fun D X hd w Q hT hf h7 hc h => ?_⟩
      · obtain ⟨d, rfl, hd2⟩ := hD D hd
        refine K_agW (d := d) hn0 hn1 hn2 hn3 hn4 hw hlen hT hf (fun u fu tu ffu _ => K_agIn (d := d) hr h6 (by omega) tu ffu (hc.T hr fu) hF (fun u2 a2 f2 t2 ff2 _ c2 => ?_))
        refine K_44B (d := d + 10) (by omega) (by omega) ⟨ff2, a2, t2⟩ (fun u3 f3 b3 => K_needF (d := d + 10) (by decide) b3 (fun u4 f4 b4 => ?_))
        exact h u4 ((((aWk_T fu).trans f2).trans f3).trans f4) b4
      · obtain ⟨d, rfl, hd2⟩ := hD D hd
        refine R_agW (d := d) hn0 hn1 hn2 hn3 hn4 hw hT hf (fun u fu tu ffu => R_agIn (d := d) h6 (by omega) (by omega) tu ffu ((fu.2 79 7 (aRx_n (by omega))).trans h7) (hc.x fu) hF (fun u2 f2 t2 ff2 o2 c2 => ?_))
        exact R_227B (d := d + 10) ff2 (fun u3 f3 b3 => h u3 (((aRk_x fu).trans f2).trans f3) b3)
    | none =>
      obtain ⟨z1, z2⟩ := orf_nn.mp hF
      obtain ⟨p1, p2⟩ := num_ok (show sk N Y a + 5 ≤ N by omega) z1
      obtain ⟨p3, p4⟩ := sig_ok p2 z2
      have hx20 : (num N Y 0 20 (sk N Y a + 5)).2.1 ≤ 20 := (num_v (by decide)).2
      rcases loop_of (own := n) (a1 := a + 5) hr hN h6 (fun a2 n2 kd2 fs2 sc2 y1 y2 y3 => S h6 a2 n2 kd2 fs2 sc2 y1 y2 y3) (N + 1) (sig N Y 91 (num N Y 0 20 (sk N Y a + 5)).2.2).2 (n + 1) (up kd n 5) (up fs n (num N Y 0 20 (sk N Y a + 5)).2.1) (up sc n 0) 0 (by omega) (by omega) p4 (by omega) (by omega) (by omega) (up_s _ _ _) with ⟨y, vc, vr⟩ | ⟨a', n', kd', fs', sc', g1, vc, vr⟩
      · refine Or.inl ⟨y, fun D X hd w Q hT hf hc h => ?_, fun D X hd w Q hT hf h7 hc h => ?_⟩
        · obtain ⟨d, rfl, hd2⟩ := hD D hd
          have hd2 := hd2 h6
          refine K_agW (d := d) hn0 hn1 hn2 hn3 hn4 hw hlen hT hf (fun u fu tu ffu _ => K_agIn (d := d) hr h6 (by omega) tu ffu (hc.T hr fu) hF (fun u2 a2 f2 t2 ff2 ha2 c2 => ?_))
          have ha2 := ha2 rfl
          subst ha2
          exact vc (d + 11) (d + 13) X hd2 (by omega) u2 Q t2 ff2 c2 (fun u3 f3 b3 => h u3 (((aWk_T fu).trans f2).trans f3) b3)
        · obtain ⟨d, rfl, hd2⟩ := hD D hd
          have hd2 := hd2 h6
          refine R_agW (d := d) hn0 hn1 hn2 hn3 hn4 hw hT hf (fun u fu tu ffu => R_agIn (d := d) h6 (by omega) (by omega) tu ffu ((fu.2 79 7 (aRx_n (by omega))).trans h7) (hc.x fu) hF (fun u2 f2 t2 ff2 o2 c2 => ?_))
          exact vr (d + 12) X (by omega) u2 Q t2.no ff2 o2 (c2 rfl) (fun u3 f3 b3 => h u3 (((aRk_x fu).trans f2).trans f3) b3)
      · obtain ⟨⟨q1, q2⟩, ⟨q3, q4⟩, q5, q6⟩ := g1
        obtain ⟨k1, k2, k3⟩ := q5 n (by omega)
        rw [up_s] at k1 k2
        refine Or.inr ⟨a', n', kd', fs', up sc' n n', ⟨⟨by omega, q2⟩, ⟨by omega, q4⟩, fun i hi => ?_, fun i y1 y2 => ?_⟩, fun D X hd w Q hT hf hc h => ?_, fun D X hd w Q hT hf h7 hc h => ?_⟩
        · obtain ⟨m1, m2, m3⟩ := q5 i (by omega)
          rw [up_n (by omega)] at m1 m2 m3
          rw [up_n (by omega)]
          exact ⟨m1, m2, m3⟩
        · by_cases q : i = n
          · subst q
            rw [up_s, k1, k2]
            exact Or.inr ⟨rfl, hx20, by omega, Nat.le_refl _⟩
          · rw [up_n q]
            exact q6 i (by omega) y2
        · obtain ⟨d, rfl, hd2⟩ := hD D hd
          have hd2 := hd2 h6
          refine K_agW (d := d) hn0 hn1 hn2 hn3 hn4 hw hlen hT hf (fun u fu tu ffu _ => K_agIn (d := d) hr h6 (by omega) tu ffu (hc.T hr fu) hF (fun u2 a2 f2 t2 ff2 ha2 c2 => ?_))
          have ha2 := ha2 rfl
          subst ha2
          exact vc (d + 11) (d + 13) X hd2 (by omega) u2 Q t2 ff2 c2 (fun u3 f3 t3 ff3 c3 => h u3 (((aWk_T fu).trans f2).trans f3) t3 ff3 c3)
        · obtain ⟨d, rfl, hd2⟩ := hD D hd
          have hd2 := hd2 h6
          refine R_agW (d := d) hn0 hn1 hn2 hn3 hn4 hw hT hf (fun u fu tu ffu => R_agIn (d := d) h6 (by omega) (by omega) tu ffu ((fu.2 79 7 (aRx_n (by omega))).trans h7) (hc.x fu) hF (fun u2 f2 t2 ff2 o2 c2 => ?_))
          exact vr (d + 12) X (by omega) u2 Q t2.no ff2 o2 (c2 rfl) (fun u3 f3 t3 ff3 o3 c3 => h u3 (((aRk_x fu).trans f2).trans f3) t3 ff3 o3 c3)
  · have ho6 : o = 6 := by omega
    refine Or.inl ⟨(3, sk N Y a), fun D X hd w Q hT hf hc h => ?_, fun D X hd w Q hT hf h7 hc h => ?_⟩
    · obtain ⟨d, rfl, _⟩ := hD D hd
      refine K_agW (d := d) hn0 hn1 hn2 hn3 hn4 hw hlen hT hf (fun u fu tu ffu su => ?_)
      apply eX9_readAgain
      unfold vX9_readAgain_0
      rw [L_6, nI_ltI (by omega) (by omega)]
      refine ⟨fun z => absurd z h6, fun _ => K_start ?_⟩
      rw [su]
      refine K_blame (k := 3) (d := d + 10) ffu (by decide) (by decide) (by omega) (fun u2 f2 g2 _ ff2 => ?_)
      rw [s_Vn]
      refine K_needF (d := d + 10) (c := 59) (y := (3, sk N Y a)) (by decide) ⟨ff2, _, tu.mv f2 (g2.trans tu.2.2.2.1) tu.2.1⟩ (fun u3 f3 b3 => ?_)
      exact h u3 ((aWk_T (fu.trans f2)).trans f3) b3
    · obtain ⟨d, rfl, _⟩ := hD D hd
      rw [ho6] at h7
      refine R_agW (d := d) hn0 hn1 hn2 hn3 hn4 hw hT hf (fun u fu tu ffu => R_opW6 (d := d + 10) tu ffu ((fu.2 79 7 (aRx_n (by omega))).trans h7) (fun u2 f2 ff2 => ?_))
      unfold agK
      refine R_numB (d := d + 10) ff2 (R_signB (d := d + 10) ff2 (R_tellsB (d := d + 10) ff2 ?_))
      exact R_227B (d := d + 10) ff2 (fun u3 f3 b3 => h u3 (((aRk_x fu).trans f2).trans f3) b3)
theorem step_all {r N : Nat} {T : Tb} {Y : Nat → Nat} (hr : r = 4 ∨ r = 20) (ht : tb T) (hN : N ≤ 150) : ∀ m o a n kd fs sc, N - a < m → a ≤ N → o ≤ 6 → 5 * n ≤ a → outT r T N Y o a n kd fs sc := by
  intro m
  induction m with
  | zero => intro o a n kd fs sc h; omega
  | succ m ih =>
    intro o a n kd fs sc hm ha ho h5
    by_cases w0 : wA N Y (sk N Y a) 21
    · exact wt_pay hr ht hN ho ha h5 w0
    by_cases w1 : wA N Y (sk N Y a) 22
    · exact wt_end hr ht hN ho ha h5 w0 w1
    by_cases w2 : wA N Y (sk N Y a) 23
    · exact wt_lamp hr ht hN ho ha h5 w0 w1 w2
    by_cases w3 : wA N Y (sk N Y a) 24
    · exact wt_hand hr ht hN ho ha h5 w0 w1 w2 w3
    by_cases w4 : wA N Y (sk N Y a) 25
    · exact wt_dusk hr ht hN ho ha h5 w0 w1 w2 w3 w4
    by_cases w5 : wA N Y (sk N Y a) 26
    · exact again_of hr hN ho ha h5 w0 w1 w2 w3 w4 w5 (fun h6 a2 n2 kd2 fs2 sc2 y1 y2 y3 => ih (o + 1) a2 n2 kd2 fs2 sc2 (by omega) y2 (by omega) y3)
    exact wt_none hr ht hN ho ha h5 w0 w1 w2 w3 w4 w5
