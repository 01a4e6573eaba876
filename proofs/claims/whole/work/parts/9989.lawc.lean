/-! the law's text: pairs and units -/
theorem pair_of {l N o s b n code : Nat} {Y C : Nat → Nat} (hl : l = 36 ∨ l = 40) (hN : N ≤ 150) (ho : o < 6) (hs : s + b ≤ N) (hb : 0 < b) (hn : n ≤ s) (hd : dp C n ≤ 3 * o + 2) (hcode : code = 2006 ∨ code = 2007)
    (S : ∀ a1 n1 C1, s < a1 → a1 ≤ N → n1 ≤ a1 → dp C1 n1 ≤ 3 * (o + 1) → outS l N Y (o + 1) a1 n1 C1) :
    out l N Y o (s + b) s n C (DU o - 1) (gd N s n C) (fun D X w Q => s_EvV D 0 mX5_readPair w [.ref l, .ref 2, .int (nI o), .int (cc code)] Q X) (fun D X w Q => s_EvV D 0 mX12_readTwo w [.ref 79, .int (nI b), .int (nI (r1 code))] Q X) := by
  -- once a fault stands: the rest of the class, of the reference
  have c4 : ∀ (y : Nat × Nat) d X (w : q_Sm) (Q : q_Sm → Prop), sbd l N Y y w → (∀ u, fr (aLw l) w u → sbd l N Y y u → Q u) → s_EvV (d + 10) 0 mX10_need w [.ref 2, .int 93] (fun u12 => q_id 116 5 l ∧ s_EvV (d + 10) 0 mX5_emit u12 [.ref l, .int (cc code)] (fun u14 => s_V Q none u14) X) X := by
    intro y d X w Q hb h
    refine K_needB (d := d + 7) (c := 93) hl (by decide) hb (fun u fu bu => ⟨ic_0 hl, K_emitB hl bu (fun u2 f2 b2 => ?_)⟩)
    rw [s_Vn]
    exact h u2 (fu.trans f2) b2
  have c3 : ∀ (y : Nat × Nat) d X (w : q_Sm) (Q : q_Sm → Prop), sbd l N Y y w → (∀ u, fr (aLw l) w u → sbd l N Y y u → Q u) → s_EvV (d + 10) 0 mX5_readSum w [.ref l, .ref 2, .int (nI (o + 1))] (fun u10 => s_EvV (d + 10) 0 mX10_need u10 [.ref 2, .int 93] (fun u12 => q_id 116 5 l ∧ s_EvV (d + 10) 0 mX5_emit u12 [.ref l, .int (cc code)] (fun u14 => s_V Q none u14) X) X) X := by
    intro y d X w Q hb h
    exact K_sumB (d := d + 1) hl (by omega) hb (fun u fu bu => c4 y d X u Q bu (fun u2 f2 b2 => h u2 (fu.trans f2) b2))
  have c2 : ∀ (y : Nat × Nat) d X (w : q_Sm) (Q : q_Sm → Prop), sbd l N Y y w → (∀ u, fr (aLw l) w u → sbd l N Y y u → Q u) → s_EvV (d + 10) 0 mX10_need w [.ref 2, .int 44] (fun u8 => q_id 116 5 l ∧ s_EvV (d + 10) 0 mX5_readSum u8 [.ref l, .ref 2, .int (nI (o + 1))] (fun u10 => s_EvV (d + 10) 0 mX10_need u10 [.ref 2, .int 93] (fun u12 => q_id 116 5 l ∧ s_EvV (d + 10) 0 mX5_emit u12 [.ref l, .int (cc code)] (fun u14 => s_V Q none u14) X) X) X) X := by
    intro y d X w Q hb h
    exact K_needB (d := d + 7) (c := 44) hl (by decide) hb (fun u fu bu => ⟨ic_0 hl, c3 y d X u Q bu (fun u2 f2 b2 => h u2 (fu.trans f2) b2)⟩)
  have c1 : ∀ (y : Nat × Nat) d X (w : q_Sm) (Q : q_Sm → Prop), sbd l N Y y w → (∀ u, fr (aLw l) w u → sbd l N Y y u → Q u) → s_EvV (d + 10) 0 mX5_readSum w [.ref l, .ref 2, .int (nI (o + 1))] (fun u6 => s_EvV (d + 10) 0 mX10_need u6 [.ref 2, .int 44] (fun u8 => q_id 116 5 l ∧ s_EvV (d + 10) 0 mX5_readSum u8 [.ref l, .ref 2, .int (nI (o + 1))] (fun u10 => s_EvV (d + 10) 0 mX10_need u10 [.ref 2, .int 93] (fun u12 => q_id 116 5 l ∧ s_EvV (d + 10) 0 mX5_emit u12 [.ref l, .int (cc code)] (fun u14 => s_V Q none u14) X) X) X) X) X := by
    intro y d X w Q hb h
    exact K_sumB (d := d + 1) hl (by omega) hb (fun u fu bu => c2 y d X u Q bu (fun u2 f2 b2 => h u2 (fu.trans f2) b2))
  have e5 : ∀ (y : Nat × Nat) d X (w : q_Sm) (Q : q_Sm → Prop), fR (some y) w → (∀ u, fr aRl w u → fR (some y) u → Q u) → ∀ w_13 : q_Sm, w_13 = q_wI w 79 7 ((w.1 79 7) - 1) → s_EvV (d + 10) 0 mX12_emit w_13 [.ref 79, .int (nI (r1 code)), .int 0] (fun u15 => s_V Q none u15) X := by
    intro y d X w Q hf h w1 e1
    have f1 : fR (some y) w1 := hf.mv (by rw [e1, rd_j (by decide)]) (by rw [e1, rd_j (by decide)])
    refine R_emitB (d := d + 8) f1 ?_
    rw [s_Vn]
    exact h w1 (by rw [e1]; exact fr.wr rfl) f1
  have e3 : ∀ (y : Nat × Nat) d X (w : q_Sm) (Q : q_Sm → Prop), fR (some y) w → (∀ u, fr aRl w u → fR (some y) u → Q u) → s_EvV (d + 10) 0 mX12_readSum w [.ref 79] (fun u10 => s_EvV (d + 10) 0 mX12_sign u10 [.ref 79, .int 93] (fun u12 => ∀ w_13 : q_Sm, w_13 = q_wI u12 79 7 ((u12.1 79 7) - 1) → s_EvV (d + 10) 0 mX12_emit w_13 [.ref 79, .int (nI (r1 code)), .int 0] (fun u15 => s_V Q none u15) X) X) X := by
    intro y d X w Q hf h
    exact R_sumB (d := d + 6) hf (R_signB (d := d + 8) hf (e5 y d X w Q hf h))
  have e1 : ∀ (y : Nat × Nat) d X (w : q_Sm) (Q : q_Sm → Prop), fR (some y) w → (∀ u, fr aRl w u → fR (some y) u → Q u) → s_EvV (d + 10) 0 mX12_readSum w [.ref 79] (fun u6 => s_EvV (d + 10) 0 mX12_sign u6 [.ref 79, .int 44] (fun u8 => s_EvV (d + 10) 0 mX12_readSum u8 [.ref 79] (fun u10 => s_EvV (d + 10) 0 mX12_sign u10 [.ref 79, .int 93] (fun u12 => ∀ w_13 : q_Sm, w_13 = q_wI u12 79 7 ((u12.1 79 7) - 1) → s_EvV (d + 10) 0 mX12_emit w_13 [.ref 79, .int (nI (r1 code)), .int 0] (fun u15 => s_V Q none u15) X) X) X) X) X := by
    intro y d X w Q hf h
    exact R_sumB (d := d + 6) hf (R_signB (d := d + 8) hf (e3 y d X w Q hf h))
  -- how both begin
  have kin : ∀ d X (w : q_Sm) (Q : q_Sm → Prop), fC none w → s_EvV (d + 10) 0 mX10_need w [.ref 2, .int 91] (fun u4 => q_id 116 5 l ∧ s_EvV (d + 10) 0 mX5_readSum u4 [.ref l, .ref 2, .int (nI (o + 1))] (fun u6 => s_EvV (d + 10) 0 mX10_need u6 [.ref 2, .int 44] (fun u8 => q_id 116 5 l ∧ s_EvV (d + 10) 0 mX5_readSum u8 [.ref l, .ref 2, .int (nI (o + 1))] (fun u10 => s_EvV (d + 10) 0 mX10_need u10 [.ref 2, .int 93] (fun u12 => q_id 116 5 l ∧ s_EvV (d + 10) 0 mX5_emit u12 [.ref l, .int (cc code)] (fun u14 => s_V Q none u14) X) X) X) X) X) X → s_EvV (d + 11) 0 mX5_readPair w [.ref l, .ref 2, .int (nI o), .int (cc code)] Q X := by
    intro d X w Q hf h
    apply eX5_readPair
    unfold vX5_readPair_0
    rw [nI_1 o]
    exact K_mayOpen1 (d := d + 8) ho hf ⟨fun z => absurd z (by decide), fun _ => h⟩
  have ein : ∀ d X (w : q_Sm) (Q : q_Sm → Prop), tR N Y s w → fR none w → w.1 79 7 = nI o → lr n C w → (∀ u, fr aRl w u → tR N Y (s + b) u → fR none u → u.1 79 7 = nI (o + 1) → lr n C u → s_EvV (d + 10) 0 mX12_sign u [.ref 79, .int 91] (fun u4 => s_EvV (d + 10) 0 mX12_readSum u4 [.ref 79] (fun u6 => s_EvV (d + 10) 0 mX12_sign u6 [.ref 79, .int 44] (fun u8 => s_EvV (d + 10) 0 mX12_readSum u8 [.ref 79] (fun u10 => s_EvV (d + 10) 0 mX12_sign u10 [.ref 79, .int 93] (fun u12 => ∀ w_13 : q_Sm, w_13 = q_wI u12 79 7 ((u12.1 79 7) - 1) → s_EvV (d + 10) 0 mX12_emit w_13 [.ref 79, .int (nI (r1 code)), .int 0] (fun u15 => s_V Q none u15) X) X) X) X) X) X) → s_EvV (d + 11) 0 mX12_readTwo w [.ref 79, .int (nI b), .int (nI (r1 code))] Q X := by
    intro d X w Q hT hf h7 hc h
    apply eX12_readTwo
    unfold vX12_readTwo_0
    exact R_opens (d := d + 8) ho hs hT hf h7 hc h
  have hD11 : ∀ D, DU o - 1 ≤ D → ∃ d, D = d + 11 ∧ DU (o + 1) + 2 ≤ d + 10 := fun D hD => ⟨D - 11, by unfold DU at hD; omega, by unfold DU at hD ⊢; omega⟩
  have o7 : ∀ {w u : q_Sm} {o : Nat}, fr aRx w u → w.1 79 7 = nI o → u.1 79 7 = nI o := fun f h => by rw [f.2 79 7 rfl]; exact h
  -- the first sign
  cases hg1 : (sig N Y 91 (s + b)).1 with
  | some y =>
    refine Or.inl ⟨y, fun D X hD => ?_, fun D X hD => ?_⟩
    · intro w Q hT hf hc h
      obtain ⟨d, rfl, hd2⟩ := hD11 D hD
      refine kin d X w Q hf (K_need (d := d + 7) (c := 91) (by decide) hT hf (fun u a' fu tu _ ffu => ⟨ic_0 hl, ?_⟩))
      rw [hg1] at ffu
      exact c1 y d X u Q (sbd.of ffu tu (hc.T hl fu)) (fun u2 f2 b2 => h u2 ((aLw_T fu).trans f2) b2)
    · intro w Q hT hf h7 hc h
      obtain ⟨d, rfl, hd2⟩ := hD11 D hD
      refine ein d X w Q hT hf h7 hc (fun u0 f0 t0 ff0 o0 c0 => R_sign (d := d + 8) (c := 91) (by decide) (by decide) t0 ff0 (fun u a' fu tu _ ffu => ?_))
      rw [hg1] at ffu
      exact e1 y d X u Q ffu (fun u2 f2 b2 => h u2 ((f0.trans (aRl_x fu)).trans f2) b2)
  | none =>
  obtain ⟨p1, p2⟩ := sig_ok hs hg1
  generalize hA1 : (sig N Y 91 (s + b)).2 = a1 at p1 p2
  -- from there on: class and reference
  have kin1 : ∀ d X (w : q_Sm) (Q : q_Sm → Prop), tC N Y (s + b) w → fC none w → lc l n C w → (∀ u, fr (aLw l) w u → tC N Y a1 u → fC none u → lc l n C u → s_EvV (d + 10) 0 mX5_readSum u [.ref l, .ref 2, .int (nI (o + 1))] (fun u6 => s_EvV (d + 10) 0 mX10_need u6 [.ref 2, .int 44] (fun u8 => q_id 116 5 l ∧ s_EvV (d + 10) 0 mX5_readSum u8 [.ref l, .ref 2, .int (nI (o + 1))] (fun u10 => s_EvV (d + 10) 0 mX10_need u10 [.ref 2, .int 93] (fun u12 => q_id 116 5 l ∧ s_EvV (d + 10) 0 mX5_emit u12 [.ref l, .int (cc code)] (fun u14 => s_V Q none u14) X) X) X) X) X) → s_EvV (d + 11) 0 mX5_readPair w [.ref l, .ref 2, .int (nI o), .int (cc code)] Q X := by
    intro d X w Q hT hf hc h
    refine kin d X w Q hf (K_need (d := d + 7) (c := 91) (by decide) hT hf (fun u a' fu tu ha ffu => ⟨ic_0 hl, ?_⟩))
    rw [hg1] at ffu
    have ha := ha rfl
    rw [hA1] at ha
    subst ha
    exact h u (aLw_T fu) tu ffu (hc.T hl fu)
  have ein1 : ∀ d X (w : q_Sm) (Q : q_Sm → Prop), tR N Y s w → fR none w → w.1 79 7 = nI o → lr n C w → (∀ u, fr aRl w u → tR N Y a1 u → fR none u → u.1 79 7 = nI (o + 1) → lr n C u → s_EvV (d + 10) 0 mX12_readSum u [.ref 79] (fun u6 => s_EvV (d + 10) 0 mX12_sign u6 [.ref 79, .int 44] (fun u8 => s_EvV (d + 10) 0 mX12_readSum u8 [.ref 79] (fun u10 => s_EvV (d + 10) 0 mX12_sign u10 [.ref 79, .int 93] (fun u12 => ∀ w_13 : q_Sm, w_13 = q_wI u12 79 7 ((u12.1 79 7) - 1) → s_EvV (d + 10) 0 mX12_emit w_13 [.ref 79, .int (nI (r1 code)), .int 0] (fun u15 => s_V Q none u15) X) X) X) X) X) → s_EvV (d + 11) 0 mX12_readTwo w [.ref 79, .int (nI b), .int (nI (r1 code))] Q X := by
    intro d X w Q hT hf h7 hc h
    refine ein d X w Q hT hf h7 hc (fun u0 f0 t0 ff0 o0 c0 => R_sign (d := d + 8) (c := 91) (by decide) (by decide) t0 ff0 (fun u a' fu tu ha ffu => ?_))
    have ha := ha hg1
    rw [hg1] at ffu
    rw [hA1] at ha
    subst ha
    exact h u (f0.trans (aRl_x fu)) tu ffu (o7 fu o0) (c0.x fu)
  rcases S a1 n C (by omega) p2 (by omega) (by omega) with ⟨y, uc, ur⟩ | ⟨a2, n2, C2, g2, uc, ur⟩
  · refine Or.inl ⟨y, fun D X hD => ?_, fun D X hD => ?_⟩
    · intro w Q hT hf hc h
      obtain ⟨d, rfl, hd2⟩ := hD11 D hD
      refine kin1 d X w Q hT hf hc (fun u fu tu ffu cu => uc (d + 10) X hd2 u _ tu ffu cu (fun u2 f2 b2 => ?_))
      exact c2 y d X u2 Q b2 (fun u3 f3 b3 => h u3 ((fu.trans f2).trans f3) b3)
    · intro w Q hT hf h7 hc h
      obtain ⟨d, rfl, hd2⟩ := hD11 D hD
      refine ein1 d X w Q hT hf h7 hc (fun u fu tu ffu ou cu => ur (d + 10) X hd2 u _ tu ffu ou cu (fun u2 f2 b2 => ?_))
      exact R_signB (d := d + 8) b2 (e3 y d X u2 Q b2 (fun u3 f3 b3 => h u3 ((fu.trans f2).trans f3) b3))
  have g2a := g2.1
  cases hg2 : (sig N Y 44 a2).1 with
  | some y =>
    refine Or.inl ⟨y, fun D X hD => ?_, fun D X hD => ?_⟩
    · intro w Q hT hf hc h
      obtain ⟨d, rfl, hd2⟩ := hD11 D hD
      refine kin1 d X w Q hT hf hc (fun u fu tu ffu cu => uc (d + 10) X hd2 u _ tu ffu cu (fun u2 f2 t2 ff2 c2' => ?_))
      refine K_need (d := d + 7) (c := 44) (by decide) t2 ff2 (fun u3 a' f3 t3 _ ff3 => ⟨ic_0 hl, ?_⟩)
      rw [hg2] at ff3
      exact c3 y d X u3 Q (sbd.of ff3 t3 (c2'.T hl f3)) (fun u4 f4 b4 => h u4 (((fu.trans f2).trans (aLw_T f3)).trans f4) b4)
    · intro w Q hT hf h7 hc h
      obtain ⟨d, rfl, hd2⟩ := hD11 D hD
      refine ein1 d X w Q hT hf h7 hc (fun u fu tu ffu ou cu => ur (d + 10) X hd2 u _ tu ffu ou cu (fun u2 f2 t2 ff2 o2 c2' => ?_))
      refine R_sign (d := d + 8) (c := 44) (by decide) (by decide) t2 ff2 (fun u3 a' f3 t3 _ ff3 => ?_)
      rw [hg2] at ff3
      exact e3 y d X u3 Q ff3 (fun u4 f4 b4 => h u4 (((fu.trans f2).trans (aRl_x f3)).trans f4) b4)
  | none =>
  obtain ⟨p3, p4⟩ := sig_ok g2a.2.1 hg2
  generalize hA3 : (sig N Y 44 a2).2 = a3 at p3 p4
  have kin2 : ∀ d X (w : q_Sm) (Q : q_Sm → Prop), DU (o + 1) + 2 ≤ d + 10 → tC N Y (s + b) w → fC none w → lc l n C w → (∀ u, fr (aLw l) w u → tC N Y a3 u → fC none u → lc l n2 C2 u → s_EvV (d + 10) 0 mX5_readSum u [.ref l, .ref 2, .int (nI (o + 1))] (fun u10 => s_EvV (d + 10) 0 mX10_need u10 [.ref 2, .int 93] (fun u12 => q_id 116 5 l ∧ s_EvV (d + 10) 0 mX5_emit u12 [.ref l, .int (cc code)] (fun u14 => s_V Q none u14) X) X) X) → s_EvV (d + 11) 0 mX5_readPair w [.ref l, .ref 2, .int (nI o), .int (cc code)] Q X := by
    intro d X w Q hd2 hT hf hc h
    refine kin1 d X w Q hT hf hc (fun u fu tu ffu cu => uc (d + 10) X hd2 u _ tu ffu cu (fun u2 f2 t2 ff2 c2' => ?_))
    refine K_need (d := d + 7) (c := 44) (by decide) t2 ff2 (fun u3 a' f3 t3 ha ff3 => ⟨ic_0 hl, ?_⟩)
    rw [hg2] at ff3
    have ha := ha rfl
    rw [hA3] at ha
    subst ha
    exact h u3 ((fu.trans f2).trans (aLw_T f3)) t3 ff3 (c2'.T hl f3)
  have ein2 : ∀ d X (w : q_Sm) (Q : q_Sm → Prop), DU (o + 1) + 2 ≤ d + 10 → tR N Y s w → fR none w → w.1 79 7 = nI o → lr n C w → (∀ u, fr aRl w u → tR N Y a3 u → fR none u → u.1 79 7 = nI (o + 1) → lr n2 C2 u → s_EvV (d + 10) 0 mX12_readSum u [.ref 79] (fun u10 => s_EvV (d + 10) 0 mX12_sign u10 [.ref 79, .int 93] (fun u12 => ∀ w_13 : q_Sm, w_13 = q_wI u12 79 7 ((u12.1 79 7) - 1) → s_EvV (d + 10) 0 mX12_emit w_13 [.ref 79, .int (nI (r1 code)), .int 0] (fun u15 => s_V Q none u15) X) X) X) → s_EvV (d + 11) 0 mX12_readTwo w [.ref 79, .int (nI b), .int (nI (r1 code))] Q X := by
    intro d X w Q hd2 hT hf h7 hc h
    refine ein1 d X w Q hT hf h7 hc (fun u fu tu ffu ou cu => ur (d + 10) X hd2 u _ tu ffu ou cu (fun u2 f2 t2 ff2 o2 c2' => ?_))
    refine R_sign (d := d + 8) (c := 44) (by decide) (by decide) t2 ff2 (fun u3 a' f3 t3 ha ff3 => ?_)
    have ha := ha hg2
    rw [hg2] at ff3
    rw [hA3] at ha
    subst ha
    exact h u3 ((fu.trans f2).trans (aRl_x f3)) t3 ff3 (o7 f3 o2) (c2'.x f3)
  rcases S a3 n2 C2 (by omega) p4 (by omega) (by have := g2.2.2.1; omega) with ⟨y, vc, vr⟩ | ⟨a4, n4, C4, g4, vc, vr⟩
  · refine Or.inl ⟨y, fun D X hD => ?_, fun D X hD => ?_⟩
    · intro w Q hT hf hc h
      obtain ⟨d, rfl, hd2⟩ := hD11 D hD
      refine kin2 d X w Q hd2 hT hf hc (fun u fu tu ffu cu => vc (d + 10) X hd2 u _ tu ffu cu (fun u2 f2 b2 => ?_))
      exact c4 y d X u2 Q b2 (fun u3 f3 b3 => h u3 ((fu.trans f2).trans f3) b3)
    · intro w Q hT hf h7 hc h
      obtain ⟨d, rfl, hd2⟩ := hD11 D hD
      refine ein2 d X w Q hd2 hT hf h7 hc (fun u fu tu ffu ou cu => vr (d + 10) X hd2 u _ tu ffu ou cu (fun u2 f2 b2 => ?_))
      exact R_signB (d := d + 8) b2 (e5 y d X u2 Q b2 (fun u3 f3 b3 => h u3 ((fu.trans f2).trans f3) b3))
  have g4a := g4.1
  cases hg3 : (sig N Y 93 a4).1 with
  | some y =>
    refine Or.inl ⟨y, fun D X hD => ?_, fun D X hD => ?_⟩
    · intro w Q hT hf hc h
      obtain ⟨d, rfl, hd2⟩ := hD11 D hD
      refine kin2 d X w Q hd2 hT hf hc (fun u fu tu ffu cu => vc (d + 10) X hd2 u _ tu ffu cu (fun u2 f2 t2 ff2 c2' => ?_))
      refine K_need (d := d + 7) (c := 93) (by decide) t2 ff2 (fun u3 a' f3 t3 _ ff3 => ⟨ic_0 hl, ?_⟩)
      rw [hg3] at ff3
      refine K_emitB hl (sbd.of ff3 t3 (c2'.T hl f3)) (fun u4 f4 b4 => ?_)
      rw [s_Vn]
      exact h u4 (((fu.trans f2).trans (aLw_T f3)).trans f4) b4
    · intro w Q hT hf h7 hc h
      obtain ⟨d, rfl, hd2⟩ := hD11 D hD
      refine ein2 d X w Q hd2 hT hf h7 hc (fun u fu tu ffu ou cu => vr (d + 10) X hd2 u _ tu ffu ou cu (fun u2 f2 t2 ff2 o2 c2' => ?_))
      refine R_sign (d := d + 8) (c := 93) (by decide) (by decide) t2 ff2 (fun u3 a' f3 t3 _ ff3 => ?_)
      rw [hg3] at ff3
      exact e5 y d X u3 Q ff3 (fun u4 f4 b4 => h u4 (((fu.trans f2).trans (aRl_x f3)).trans f4) b4)
  | none =>
  obtain ⟨p5, p6⟩ := sig_ok g4a.2.1 hg3
  generalize hA5 : (sig N Y 93 a4).2 = a5 at p5 p6
  have gj : gd N a1 n C a4 (n4 + 1) (up C4 n4 code) := gd_join g2 g4 (by omega) (by omega) (by omega) (by omega)
  refine Or.inr ⟨a5, n4 + 1, up C4 n4 code, gj.wk (by omega) (by omega) p6, fun D X hD => ?_, fun D X hD => ?_⟩
  · intro w Q hT hf hc h
    obtain ⟨d, rfl, hd2⟩ := hD11 D hD
    refine kin2 d X w Q hd2 hT hf hc (fun u fu tu ffu cu => vc (d + 10) X hd2 u _ tu ffu cu (fun u2 f2 t2 ff2 c2' => ?_))
    refine K_need (d := d + 7) (c := 93) (by decide) t2 ff2 (fun u3 a' f3 t3 ha ff3 => ⟨ic_0 hl, ?_⟩)
    rw [hg3] at ff3
    have ha := ha rfl
    rw [hA5] at ha
    subst ha
    refine K_emit (d := d + 9) hl rfl (by omega) t3 ff3 (c2'.T hl f3) (fun u4 f4 t4 ff4 c4' => ?_)
    rw [s_Vn]
    exact h u4 (((fu.trans f2).trans (aLw_T f3)).trans f4) t4 ff4 c4'
  · intro w Q hT hf h7 hc h
    obtain ⟨d, rfl, hd2⟩ := hD11 D hD
    refine ein2 d X w Q hd2 hT hf h7 hc (fun u fu tu ffu ou cu => vr (d + 10) X hd2 u _ tu ffu ou cu (fun u2 f2 t2 ff2 o2 c2' => ?_))
    refine R_sign (d := d + 8) (c := 93) (by decide) (by decide) t2 ff2 (fun u3 a' f3 t3 ha ff3 => ?_)
    have ha := ha hg3
    rw [hg3] at ff3
    rw [hA5] at ha
    subst ha
    intro w13 e13
    have o3 := o7 f3 o2
    have e13' : w13 = q_wI u3 79 7 (nI o) := by
      rw [e13, o3]
      congr 1
      have h1 : nI (o + 1) - nI 1 = nI (o + 1 - 1) := pk_sub (by omega)
      exact h1
    have g13 : ∀ i j, ¬ (i = 79 ∧ j = 7) → w13.1 i j = u3.1 i j := fun i j q => by rw [e13', rd_ne q]
    have f13 : fr aRl u3 w13 := by rw [e13']; exact fr.wr rfl
    refine R_emit (d := d + 8) (c := code) (by omega) rfl (fun z => by omega) (t3.g (fun i j q => g13 i j (by omega))) (ff3.mv (g13 _ _ (by omega)) (g13 _ _ (by omega))) (by rw [e13', rd_s]) ((c2'.x f3).g (fun i j q => g13 i j (by omega))) (fun u4 f4 t4 ff4 o4 c4' => ?_)
    rw [s_Vn]
    exact h u4 ((((fu.trans f2).trans (aRl_x f3)).trans f13).trans f4) t4 ff4 o4 c4'
