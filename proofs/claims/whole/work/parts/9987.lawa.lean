/-! the law's text: emitting, opening, facts; what is done once a fault stands -/
theorem tC.g {N a : Nat} {Y : Nat → Nat} {w u : q_Sm} (h : tC N Y a w) (g : ∀ i j, i = 2 ∨ i = 3 → u.1 i j = w.1 i j) : tC N Y a u :=
  ⟨h.1, h.2.1, by rw [g _ _ (by omega)]; exact h.2.2.1, by rw [g _ _ (by omega)]; exact h.2.2.2.1, fun k hk => by rw [g _ _ (by omega)]; exact h.2.2.2.2 k hk⟩
theorem fC.g {f : Option (Nat × Nat)} {w u : q_Sm} (h : fC f w) (g : ∀ i j, i = 2 ∨ i = 3 → u.1 i j = w.1 i j) : fC f u := h.mv (g _ _ (by omega)) (g _ _ (by omega))
theorem tR.g {N a : Nat} {Y : Nat → Nat} {w u : q_Sm} (h : tR N Y a w) (g : ∀ i j, (i = 79 ∧ (j = 3 ∨ j = 4)) ∨ i = 81 → u.1 i j = w.1 i j) : tR N Y a u :=
  ⟨h.1, h.2.1, by rw [g _ _ (by omega)]; exact h.2.2.1, by rw [g _ _ (by omega)]; exact h.2.2.2.1, fun k hk => by rw [g _ _ (by omega)]; exact h.2.2.2.2 k hk⟩
def lc (l n : Nat) (C : Nat → Nat) (w : q_Sm) : Prop := n ≤ 150 ∧ w.1 l 1 = nI n ∧ ∀ k, k < n → w.1 (l + 1) k = cc (C k)
def aLw (l i j : Nat) : Bool := aTx i j || (i == l && j == 1) || i == l + 1
theorem aLw_T {l : Nat} {w u : q_Sm} (h : fr aTx w u) : fr (aLw l) w u := h.mono (fun i j q => by simp [aLw, q])
theorem aTx_l {i j : Nat} (h : 4 ≤ i) : aTx i j = false := by
  have : ¬ (i = 2) := by omega
  simp [aTx, this]
theorem lc.T {l n : Nat} {C : Nat → Nat} {w u : q_Sm} (hl : l = 36 ∨ l = 40) (h : lc l n C w) (hf : fr aTx w u) : lc l n C u :=
  ⟨h.1, by rw [hf.2 l 1 (aTx_l (by omega))]; exact h.2.1, fun k hk => by rw [hf.2 (l + 1) k (aTx_l (by omega))]; exact h.2.2 k hk⟩
theorem K_emit {d N a l n c : Nat} {Y C : Nat → Nat} {x : Int32} {X : s_Xo} {f : Option (Nat × Nat)} {w : q_Sm} {Q : q_Sm → Prop} (hl : l = 36 ∨ l = 40) (hx : x = cc c) (hn : n < 150) (hT : tC N Y a w) (hf : fC f w) (hc : lc l n C w) (h : ∀ u, fr (aLw l) w u → tC N Y a u → fC f u → lc l (n + 1) (up C n c) u → Q u) : s_EvV (d + 1) 0 mX5_emit w [.ref l, .int x] Q X := by
  apply eX5_emit
  unfold vX5_emit_0
  have zl : (q_sh (l + 1)).2 = 150 := zc_1 hl
  rw [hc.2.1, L_150, nI_leI (by omega) (by omega), nI_clamp (by omega), zl]
  refine ⟨ic_0 hl, fun z => absurd z (by omega), fun _ => ⟨ic_0 hl, ic_0 hl, ic_1 hl, (vp_nI (by omega)).mpr hn, ?_⟩⟩
  rintro _ rfl
  refine ⟨ic_0 hl, ic_0 hl, ?_⟩
  intro w2 e2
  rw [rd_i (show l ≠ l + 1 by omega), hc.2.1, nI_1 n] at e2
  rw [s_Vn]
  have g : ∀ i j, i = 2 ∨ i = 3 → w2.1 i j = w.1 i j := fun i j q => by rw [e2, rd_i (by omega), rd_i (by omega)]
  refine h w2 (by rw [e2]; exact (fr.wr (by simp [aLw])).put (by simp [aLw])) (hT.g g) (hf.g g) ⟨by omega, by rw [e2, rd_s], fun k hk => ?_⟩
  by_cases q : k = n
  · rw [q, up_s, e2, rd_i (by omega), rd_s, hx]
  · rw [up_n q, e2, rd_i (by omega), rd_j q]
    exact hc.2.2 k (by omega)
/-- a fault stands -/
def sbd (l N : Nat) (Y : Nat → Nat) (x : Nat × Nat) (u : q_Sm) : Prop := fC (some x) u ∧ (∃ a, tC N Y a u) ∧ ∃ n, n ≤ 150 ∧ u.1 l 1 = nI n
theorem sbd.T {l N a : Nat} {Y : Nat → Nat} {x : Nat × Nat} {w u : q_Sm} (hl : l = 36 ∨ l = 40) (h : sbd l N Y x w) (hf : fr aTx w u) (ht : tC N Y a u) (hx : fC (some x) u) : sbd l N Y x u := by
  obtain ⟨n, h1, h2⟩ := h.2.2
  exact ⟨hx, ⟨a, ht⟩, n, h1, by rw [hf.2 l 1 (aTx_l (by omega))]; exact h2⟩
theorem sbd.of {l N a n : Nat} {Y C : Nat → Nat} {x : Nat × Nat} {u : q_Sm} (hx : fC (some x) u) (ht : tC N Y a u) (hc : lc l n C u) : sbd l N Y x u := ⟨hx, ⟨a, ht⟩, n, hc.1, hc.2.1⟩
theorem K_emitB {d N l : Nat} {Y : Nat → Nat} {x : Int32} {y : Nat × Nat} {X : s_Xo} {w : q_Sm} {Q : q_Sm → Prop} (hl : l = 36 ∨ l = 40) (hb : sbd l N Y y w) (h : ∀ u, fr (aLw l) w u → sbd l N Y y u → Q u) : s_EvV (d + 1) 0 mX5_emit w [.ref l, .int x] Q X := by
  obtain ⟨hf, ⟨a, hT⟩, n, hn, hc⟩ := id hb
  apply eX5_emit
  unfold vX5_emit_0
  have zl : (q_sh (l + 1)).2 = 150 := zc_1 hl
  rw [hc, L_150, nI_leI (by omega) (by omega), nI_clamp (by omega), zl, s_Vn]
  refine ⟨ic_0 hl, fun z => h w (fr.refl _ _) hb, fun z => ⟨ic_0 hl, ic_0 hl, ic_1 hl, (vp_nI (by omega)).mpr (by omega), ?_⟩⟩
  rintro _ rfl
  refine ⟨ic_0 hl, ic_0 hl, ?_⟩
  intro w2 e2
  rw [rd_i (show l ≠ l + 1 by omega), hc, nI_1 n] at e2
  rw [s_Vn]
  have g : ∀ i j, i = 2 ∨ i = 3 → w2.1 i j = w.1 i j := fun i j q => by rw [e2, rd_i (by omega), rd_i (by omega)]
  exact h w2 (by rw [e2]; exact (fr.wr (by simp [aLw])).put (by simp [aLw])) ⟨hf.g g, ⟨a, hT.g g⟩, n + 1, by omega, by rw [e2, rd_s]⟩
theorem K_failed {d : Nat} {f : Option (Nat × Nat)} {X : s_Xo} {w : q_Sm} {Q : Int32 → q_Sm → Prop} (hf : fC f w) (h1 : f ≠ none → Q 1 w) (h0 : f = none → Q 0 w) : s_EvI (d + 1) 0 mX10_failed w [.ref 2] Q X := by
  apply eX10_failed
  unfold vX10_failed_0
  rw [fC_5 hf, s_Ii, s_Ii]
  exact ⟨h0, h1⟩
theorem K_start {d : Nat} {X : s_Xo} {w : q_Sm} {Q : Int32 → q_Sm → Prop} (h : Q (w.1 2 4) w) : s_EvI (d + 1) 0 mX10_startOfLast w [.ref 2] Q X := by
  apply eX10_startOfLast
  unfold vX10_startOfLast_0
  rw [s_Ii]
  exact h
theorem K_needB {d N l c : Nat} {Y : Nat → Nat} {y : Nat × Nat} {X : s_Xo} {w : q_Sm} {Q : q_Sm → Prop} (hl : l = 36 ∨ l = 40) (hc : c < 256) (hb : sbd l N Y y w) (h : ∀ u, fr (aLw l) w u → sbd l N Y y u → Q u) : s_EvV (d + 3) 0 mX10_need w [.ref 2, .int (nI c)] Q X := by
  obtain ⟨hf, ⟨a, hT⟩, _⟩ := id hb
  exact K_need hc hT hf (fun u a' fu tu _ ffu => h u (aLw_T fu) (hb.T hl fu tu ffu))
theorem K_mayOpen1 {d o : Nat} {X : s_Xo} {w : q_Sm} {Q : Int32 → q_Sm → Prop} (ho : o < 6) (hf : fC none w) (h : Q 1 w) : s_EvI (d + 2) 0 mX5_mayOpen w [.ref 2, .int (nI o)] Q X := by
  apply eX5_mayOpen
  unfold vX5_mayOpen_0
  rw [L_6, nI_ltI (by omega) (by omega)]
  refine ⟨fun _ => K_failed hf (fun z => absurd rfl z) (fun _ => ⟨fun z => absurd rfl z, fun _ => ?_⟩), fun z => absurd ho z⟩
  rw [s_Ii]
  exact h
theorem K_mayOpen6 {d o s : Nat} {X : s_Xo} {w : q_Sm} {Q : Int32 → q_Sm → Prop} (ho : ¬ o < 6) (ho2 : o < 100) (h4 : w.1 2 4 = nI s) (hs : s ≤ 600) (hf : fC none w) (h : ∀ u, fr aTx w u → u.1 2 3 = w.1 2 3 → fC (some (3, s)) u → Q 0 u) : s_EvI (d + 2) 0 mX5_mayOpen w [.ref 2, .int (nI o)] Q X := by
  apply eX5_mayOpen
  unfold vX5_mayOpen_0
  rw [L_6, nI_ltI (by omega) (by omega)]
  refine ⟨fun z => absurd z ho, fun _ => K_start ?_⟩
  rw [h4]
  refine K_blame (k := 3) hf (by decide) (by decide) hs (fun u g1 g2 g3 g4 => K_failed g4 (fun z => ⟨fun _ => ?_, fun z => absurd (by decide) z⟩) (fun z => by simp [orf] at z))
  rw [s_Ii]
  exact h u g1 g2 g4
theorem K_mayOpenB {d o : Nat} {y : Nat × Nat} {X : s_Xo} {w : q_Sm} {Q : Int32 → q_Sm → Prop} (ho : o < 100) (hf : fC (some y) w) (h4 : ∃ s, s ≤ 600 ∧ w.1 2 4 = nI s) (h : ∀ u, fr aTx w u → u.1 2 3 = w.1 2 3 → fC (some y) u → Q 0 u) : s_EvI (d + 2) 0 mX5_mayOpen w [.ref 2, .int (nI o)] Q X := by
  obtain ⟨s, hs, h4⟩ := h4
  apply eX5_mayOpen
  unfold vX5_mayOpen_0
  refine ⟨fun _ => K_failed hf (fun _ => ⟨fun _ => ?_, fun z => absurd (by decide) z⟩) (fun z => by simp at z), fun _ => K_start ?_⟩
  · rw [s_Ii]
    exact h w (fr.refl _ _) rfl hf
  · rw [h4]
    refine K_blame (k := 3) hf (by decide) (by decide) hs (fun u g1 g2 g3 g4 => K_failed g4 (fun z => ⟨fun _ => ?_, fun z => absurd (by decide) z⟩) (fun z => by simp [orf] at z))
    rw [s_Ii]
    exact h u g1 g2 g4
theorem K_takes4 {d N a c : Nat} {Y : Nat → Nat} {X : s_Xo} {w : q_Sm} {Q : Int32 → q_Sm → Prop} (hc : c < 256) (hT : tC N Y a w) (hf : fC none w) (hs : sk N Y a < N) (hy : Y (sk N Y a) = c)
    (h1 : ∀ u, fr aTx w u → tC N Y (sk N Y a + 1) u → fC none u → u.1 2 4 = nI (sk N Y a) → Q 1 u) : s_EvI (d + 2) 0 mX10_takes w [.ref 2, .int (nI c)] Q X := by
  have h600 := hT.1
  have hsN := sk_le (Y := Y) hT.2.1
  apply eX10_takes
  unfold vX10_takes_0
  refine K_skipBlanks hT hf (fun u fu tu ffu _ => ?_)
  generalize sk N Y a = s at h1 tu hsN hs hy
  rw [fC_5 ffu]
  refine ⟨fun z => absurd rfl z, fun z => K_peek tu ?_⟩
  unfold pkA
  rw [if_pos hs, oI_s, nI_eq (by have := (tu.2.2.2.2 s hs).1; omega) (by omega)]
  refine ⟨fun z2 => ?_, fun z2 => absurd hy z2⟩
  rintro _ rfl _ rfl
  rw [s_Ii]
  have f6 : fr aTx u (q_wI (q_wI u 2 4 (u.1 2 3)) 2 3 ((q_wI u 2 4 (u.1 2 3)).1 2 3 + 1)) := (fr.wr rfl).put rfl
  refine h1 _ (fu.trans f6) (tu.mv f6 ?_ (by omega)) (ffu.mv ?_ ?_) ?_
  · rw [rd_s, rd_j (by decide), tu.2.2.2.1, nI_1 s]
  · rw [rd_j (by decide), rd_j (by decide)]
  · rw [rd_j (by decide), rd_j (by decide)]
  · rw [rd_j (by decide), rd_s, tu.2.2.2.1]
noncomputable def fcW (N : Nat) (Y : Nat → Nat) (s : Nat) : Option Nat := (@ite _ (wA N Y s 14) (Classical.propDecidable _) (some 0) (@ite _ (wA N Y s 15) (Classical.propDecidable _) (some 1) (@ite _ (wA N Y s 16) (Classical.propDecidable _) (some 2) (@ite _ (wA N Y s 17) (Classical.propDecidable _) (some 3) (@ite _ (wA N Y s 18) (Classical.propDecidable _) (some 4) (@ite _ (wA N Y s 19) (Classical.propDecidable _) (some 5) (@ite _ (wA N Y s 20) (Classical.propDecidable _) (some 6) none)))))))
theorem fcW_le {N s k : Nat} {Y : Nat → Nat} (h : fcW N Y s = some k) : k < 7 := by
  unfold fcW at h
  by_cases z : wA N Y s 14
  · rw [@if_pos _ (Classical.propDecidable _) z] at h; simp at h; omega
  rw [@if_neg _ (Classical.propDecidable _) z] at h
  by_cases z : wA N Y s 15
  · rw [@if_pos _ (Classical.propDecidable _) z] at h; simp at h; omega
  rw [@if_neg _ (Classical.propDecidable _) z] at h
  by_cases z : wA N Y s 16
  · rw [@if_pos _ (Classical.propDecidable _) z] at h; simp at h; omega
  rw [@if_neg _ (Classical.propDecidable _) z] at h
  by_cases z : wA N Y s 17
  · rw [@if_pos _ (Classical.propDecidable _) z] at h; simp at h; omega
  rw [@if_neg _ (Classical.propDecidable _) z] at h
  by_cases z : wA N Y s 18
  · rw [@if_pos _ (Classical.propDecidable _) z] at h; simp at h; omega
  rw [@if_neg _ (Classical.propDecidable _) z] at h
  by_cases z : wA N Y s 19
  · rw [@if_pos _ (Classical.propDecidable _) z] at h; simp at h; omega
  rw [@if_neg _ (Classical.propDecidable _) z] at h
  by_cases z : wA N Y s 20
  · rw [@if_pos _ (Classical.propDecidable _) z] at h; simp at h; omega
  rw [@if_neg _ (Classical.propDecidable _) z] at h
  simp at h
theorem K_readName {d N s l : Nat} {Y : Nat → Nat} {X : s_Xo} {w : q_Sm} {Q : q_Sm → Prop} (hl : l = 36 ∨ l = 40) (hs : s ≤ N) (hT : tC N Y (rn N (pL Y) s) w) (h4 : w.1 2 4 = nI s)
    (h1 : ∀ k x, k < 7 → fcW N Y s = some k → x = cc (1000 + k) → s_EvV (d + 5) 0 mX5_emit w [.ref l, .int x] Q X) (h0 : fcW N Y s = none → s_EvV (d + 5) 0 mX10_blame w [.ref 2, .int 1, .int (nI s)] Q X) : s_EvV (d + 6) 0 mX5_readName w [.ref l, .ref 2] Q X := by
  apply eX5_readName
  unfold vX5_readName_0
  unfold fcW at h1 h0
  have hv : ∀ M As, s_EvV (d + 5) 0 M w As Q X → s_EvV (d + 5) 0 M w As (fun u => s_V Q none u) X := fun M As h => cV h (fun u hu => by rw [s_Vn]; exact hu)
  refine K_was (d := d) (by decide) hs hT h4 (fun z => ⟨fun q => absurd q (by decide), fun _ => ⟨ic_0 hl, ?_⟩⟩) (fun z => ⟨fun _ => ?_, fun q => absurd rfl q⟩)
  · rw [@if_pos _ (Classical.propDecidable _) z] at h1
    exact hv _ _ (h1 0 (-1) (by decide) rfl (by decide))
  rw [@if_neg _ (Classical.propDecidable _) z] at h1 h0
  refine K_was (d := d) (by decide) hs hT h4 (fun z => ⟨fun q => absurd q (by decide), fun _ => ⟨ic_0 hl, ?_⟩⟩) (fun z => ⟨fun _ => ?_, fun q => absurd rfl q⟩)
  · rw [@if_pos _ (Classical.propDecidable _) z] at h1
    exact hv _ _ (h1 1 (-2) (by decide) rfl (by decide))
  rw [@if_neg _ (Classical.propDecidable _) z] at h1 h0
  refine K_was (d := d) (by decide) hs hT h4 (fun z => ⟨fun q => absurd q (by decide), fun _ => ⟨ic_0 hl, ?_⟩⟩) (fun z => ⟨fun _ => ?_, fun q => absurd rfl q⟩)
  · rw [@if_pos _ (Classical.propDecidable _) z] at h1
    exact hv _ _ (h1 2 (-3) (by decide) rfl (by decide))
  rw [@if_neg _ (Classical.propDecidable _) z] at h1 h0
  refine K_was (d := d) (by decide) hs hT h4 (fun z => ⟨fun q => absurd q (by decide), fun _ => ⟨ic_0 hl, ?_⟩⟩) (fun z => ⟨fun _ => ?_, fun q => absurd rfl q⟩)
  · rw [@if_pos _ (Classical.propDecidable _) z] at h1
    exact hv _ _ (h1 3 (-4) (by decide) rfl (by decide))
  rw [@if_neg _ (Classical.propDecidable _) z] at h1 h0
  refine K_was (d := d) (by decide) hs hT h4 (fun z => ⟨fun q => absurd q (by decide), fun _ => ⟨ic_0 hl, ?_⟩⟩) (fun z => ⟨fun _ => ?_, fun q => absurd rfl q⟩)
  · rw [@if_pos _ (Classical.propDecidable _) z] at h1
    exact hv _ _ (h1 4 (-5) (by decide) rfl (by decide))
  rw [@if_neg _ (Classical.propDecidable _) z] at h1 h0
  refine K_was (d := d) (by decide) hs hT h4 (fun z => ⟨fun q => absurd q (by decide), fun _ => ⟨ic_0 hl, ?_⟩⟩) (fun z => ⟨fun _ => ?_, fun q => absurd rfl q⟩)
  · rw [@if_pos _ (Classical.propDecidable _) z] at h1
    exact hv _ _ (h1 5 (-6) (by decide) rfl (by decide))
  rw [@if_neg _ (Classical.propDecidable _) z] at h1 h0
  refine K_was (d := d) (by decide) hs hT h4 (fun z => ⟨fun q => absurd q (by decide), fun _ => ⟨ic_0 hl, ?_⟩⟩) (fun z => ⟨fun _ => ?_, fun q => absurd rfl q⟩)
  · rw [@if_pos _ (Classical.propDecidable _) z] at h1
    exact hv _ _ (h1 6 (-7) (by decide) rfl (by decide))
  rw [@if_neg _ (Classical.propDecidable _) z] at h1 h0
  refine K_start ?_
  rw [h4]
  exact hv _ _ (h0 rfl)
theorem fct_0 : sLn 41 = sLn 14 ∧ ∀ i, i < sLn 41 → sCh 41 i = sCh 14 i := by decide +kernel
theorem fct_1 : sLn 42 = sLn 15 ∧ ∀ i, i < sLn 42 → sCh 42 i = sCh 15 i := by decide +kernel
theorem fct_2 : sLn 43 = sLn 16 ∧ ∀ i, i < sLn 43 → sCh 43 i = sCh 16 i := by decide +kernel
theorem fct_3 : sLn 30 = sLn 17 ∧ ∀ i, i < sLn 30 → sCh 30 i = sCh 17 i := by decide +kernel
theorem fct_4 : sLn 44 = sLn 18 ∧ ∀ i, i < sLn 44 → sCh 44 i = sCh 18 i := by decide +kernel
theorem fct_5 : sLn 45 = sLn 19 ∧ ∀ i, i < sLn 45 → sCh 45 i = sCh 19 i := by decide +kernel
theorem fct_6 : sLn 46 = sLn 20 ∧ ∀ i, i < sLn 46 → sCh 46 i = sCh 20 i := by decide +kernel
theorem fct_l : sLn 39 = sLn 12 ∧ ∀ i, i < sLn 39 → sCh 39 i = sCh 12 i := by decide +kernel
theorem fct_m : sLn 40 = sLn 13 ∧ ∀ i, i < sLn 40 → sCh 40 i = sCh 13 i := by decide +kernel
theorem R_isW {d N s r c : Nat} {Y : Nat → Nat} {X : s_Xo} {w : q_Sm} {Q : Int32 → q_Sm → Prop} (hs : s ≤ N) (hr : r < 51) (h6 : sLn r ≤ 6) (hc : sLn r = sLn c ∧ ∀ i, i < sLn r → sCh r i = sCh c i) (h : ∀ v, (nI (wv6 N Y s) = v ↔ wA N Y s c) → Q v w) : s_EvI (d + 5) 0 mX12_of w [.retAddr r] Q X := by
  refine R_of hr h6 (h _ ?_)
  have b1 := wv6_lt (Y := Y) hs
  have b2 := sW_lt hr h6
  rw [nI_eq (by omega) (by omega), wv6_eq hs hr h6, wA_c hc]
theorem R_factHere {d N a : Nat} {Y : Nat → Nat} {X : s_Xo} {f : Option (Nat × Nat)} {w : q_Sm} {Q : Int32 → q_Sm → Prop} (hT : tR N Y a w) (hf : fR f w) (h : ∀ u, fr aRx w u → tR N Y (sk N Y a) u → fR f u → Q (oI (fcW N Y (sk N Y a))) u) : s_EvI (d + 6) 0 mX12_factHere w [.ref 79] Q X := by
  have hsN := sk_le (Y := Y) hT.2.1
  apply eX12_factHere
  unfold vX12_factHere_0
  refine R_word hT hf (fun u fu tu ffu => ?_)
  have hQ := h u fu tu ffu
  generalize sk N Y a = s at hQ tu hsN
  unfold fcW at hQ
  refine R_isW (Y := Y) (c := 14) hsN (by decide) (by decide) fct_0 (fun v hv => ?_)
  rw [hv]
  by_cases z : wA N Y s 14
  · rw [@if_pos _ (Classical.propDecidable _) z] at hQ
    refine ⟨fun q => absurd z q, fun _ => ?_⟩
    rw [s_Ii]
    exact hQ
  rw [@if_neg _ (Classical.propDecidable _) z] at hQ
  refine ⟨fun _ => ?_, fun q => absurd z q⟩
  refine R_isW (Y := Y) (c := 15) hsN (by decide) (by decide) fct_1 (fun v hv => ?_)
  rw [hv]
  by_cases z : wA N Y s 15
  · rw [@if_pos _ (Classical.propDecidable _) z] at hQ
    refine ⟨fun q => absurd z q, fun _ => ?_⟩
    rw [s_Ii]
    exact hQ
  rw [@if_neg _ (Classical.propDecidable _) z] at hQ
  refine ⟨fun _ => ?_, fun q => absurd z q⟩
  refine R_isW (Y := Y) (c := 16) hsN (by decide) (by decide) fct_2 (fun v hv => ?_)
  rw [hv]
  by_cases z : wA N Y s 16
  · rw [@if_pos _ (Classical.propDecidable _) z] at hQ
    refine ⟨fun q => absurd z q, fun _ => ?_⟩
    rw [s_Ii]
    exact hQ
  rw [@if_neg _ (Classical.propDecidable _) z] at hQ
  refine ⟨fun _ => ?_, fun q => absurd z q⟩
  refine R_isW (Y := Y) (c := 17) hsN (by decide) (by decide) fct_3 (fun v hv => ?_)
  rw [hv]
  by_cases z : wA N Y s 17
  · rw [@if_pos _ (Classical.propDecidable _) z] at hQ
    refine ⟨fun q => absurd z q, fun _ => ?_⟩
    rw [s_Ii]
    exact hQ
  rw [@if_neg _ (Classical.propDecidable _) z] at hQ
  refine ⟨fun _ => ?_, fun q => absurd z q⟩
  refine R_isW (Y := Y) (c := 18) hsN (by decide) (by decide) fct_4 (fun v hv => ?_)
  rw [hv]
  by_cases z : wA N Y s 18
  · rw [@if_pos _ (Classical.propDecidable _) z] at hQ
    refine ⟨fun q => absurd z q, fun _ => ?_⟩
    rw [s_Ii]
    exact hQ
  rw [@if_neg _ (Classical.propDecidable _) z] at hQ
  refine ⟨fun _ => ?_, fun q => absurd z q⟩
  refine R_isW (Y := Y) (c := 19) hsN (by decide) (by decide) fct_5 (fun v hv => ?_)
  rw [hv]
  by_cases z : wA N Y s 19
  · rw [@if_pos _ (Classical.propDecidable _) z] at hQ
    refine ⟨fun q => absurd z q, fun _ => ?_⟩
    rw [s_Ii]
    exact hQ
  rw [@if_neg _ (Classical.propDecidable _) z] at hQ
  refine ⟨fun _ => ?_, fun q => absurd z q⟩
  refine R_isW (Y := Y) (c := 20) hsN (by decide) (by decide) fct_6 (fun v hv => ?_)
  rw [hv]
  by_cases z : wA N Y s 20
  · rw [@if_pos _ (Classical.propDecidable _) z] at hQ
    refine ⟨fun q => absurd z q, fun _ => ?_⟩
    rw [s_Ii]
    exact hQ
  rw [@if_neg _ (Classical.propDecidable _) z] at hQ
  refine ⟨fun _ => ?_, fun q => absurd z q⟩
  rw [s_Ii]
  exact hQ
/-- the reference emits, opens; once a fault stands it does nothing -/
def lr (n : Nat) (C : Nat → Nat) (w : q_Sm) : Prop := n ≤ 150 ∧ w.1 79 39 = nI n ∧ ∀ k, k < n → w.1 96 k = nI (r1 (C k)) ∧ (C k < 1007 → w.1 97 k = nI (r2 (C k)))
def aRl (i j : Nat) : Bool := aRx i j || (i == 79 && (j == 7 || j == 39)) || i == 96 || i == 97
theorem aRl_x {w u : q_Sm} (h : fr aRx w u) : fr aRl w u := h.mono (fun i j q => by simp [aRl, q])
theorem lr.g {n : Nat} {C : Nat → Nat} {w u : q_Sm} (h : lr n C w) (g : ∀ i j, (i = 79 ∧ j = 39) ∨ i = 96 ∨ i = 97 → u.1 i j = w.1 i j) : lr n C u :=
  ⟨h.1, by rw [g _ _ (by omega)]; exact h.2.1, fun k hk => by rw [g 96 k (by omega), g 97 k (by omega)]; exact h.2.2 k hk⟩
theorem aRx_n {i j : Nat} (h : ¬ (i = 79 ∧ (j = 4 ∨ j = 5 ∨ j = 6))) : aRx i j = false := by
  simp [aRx]
  omega
theorem lr.x {n : Nat} {C : Nat → Nat} {w u : q_Sm} (h : lr n C w) (f : fr aRx w u) : lr n C u := h.g (fun i j q => f.2 i j (aRx_n (by omega)))
theorem R_emit {d N a o n c : Nat} {Y C : Nat → Nat} {x1 x2 : Int32} {X : s_Xo} {w : q_Sm} {Q : q_Sm → Prop} (hn : n < 150) (h1 : x1 = nI (r1 c)) (h2 : c < 1007 → x2 = nI (r2 c)) (hT : tR N Y a w) (hf : fR none w) (ho : w.1 79 7 = nI o) (hc : lr n C w) (h : ∀ u, fr aRl w u → tR N Y a u → fR none u → u.1 79 7 = nI o → lr (n + 1) (up C n c) u → Q u) : s_EvV (d + 2) 0 mX12_emit w [.ref 79, .int x1, .int x2] Q X := by
  apply eX12_emit
  unfold vX12_emit_0
  refine R_fine hf (fun _ => ⟨fun _ => ?_, fun z => absurd (by decide) z⟩) (fun z => absurd rfl z)
  rw [hc.2.1, nI_clamp (by omega)]
  refine ⟨(vp_nI (by omega)).mpr hn, ?_⟩
  rintro _ rfl
  rw [rd_i (by decide), hc.2.1, nI_clamp (by omega)]
  refine ⟨(vp_nI (by omega)).mpr hn, ?_⟩
  rintro _ rfl
  intro w5 e5
  rw [rd_i (show 79 ≠ 97 by decide), rd_i (show 79 ≠ 96 by decide), hc.2.1, nI_1 n] at e5
  rw [s_Vn]
  have g : ∀ i j, ¬ (i = 79 ∧ j = 39) → i ≠ 96 → i ≠ 97 → w5.1 i j = w.1 i j := fun i j q1 q2 q3 => by rw [e5, rd_ne q1, rd_i q3, rd_i q2]
  refine h w5 (by rw [e5]; exact ((fr.wr rfl).put rfl).put rfl) (hT.g (fun i j q => g i j (by omega) (by omega) (by omega))) (hf.mv (g _ _ (by omega) (by omega) (by omega)) (g _ _ (by omega) (by omega) (by omega))) ((g _ _ (by omega) (by omega) (by omega)).trans ho) ⟨by omega, by rw [e5, rd_s], fun k hk => ?_⟩
  by_cases q : k = n
  · rw [q, up_s, e5, rd_i (by decide), rd_i (by decide), rd_s, rd_i (by decide), rd_s]
    exact ⟨h1, h2⟩
  · rw [up_n q, e5, rd_i (by decide), rd_i (by decide), rd_j q, rd_i (by decide), rd_j q, rd_i (by decide)]
    exact hc.2.2 k (by omega)
theorem R_emitB {d : Nat} {x1 x2 : Int32} {y : Nat × Nat} {X : s_Xo} {w : q_Sm} {Q : q_Sm → Prop} (hf : fR (some y) w) (h : Q w) : s_EvV (d + 2) 0 mX12_emit w [.ref 79, .int x1, .int x2] Q X := by
  apply eX12_emit
  unfold vX12_emit_0
  refine R_fine hf (fun z => by simp at z) (fun _ => ⟨fun z => absurd rfl z, fun _ => ?_⟩)
  rw [s_Vn]
  exact h
theorem R_signB {d : Nat} {c : Int32} {y : Nat × Nat} {X : s_Xo} {w : q_Sm} {Q : q_Sm → Prop} (hf : fR (some y) w) (h : Q w) : s_EvV (d + 2) 0 mX12_sign w [.ref 79, .int c] Q X := by
  apply eX12_sign
  unfold vX12_sign_0
  refine R_fine hf (fun z => by simp at z) (fun _ => ⟨fun _ => R_fine hf (fun z => by simp at z) (fun _ => ⟨fun _ => ?_, fun z => absurd rfl z⟩), fun z => absurd rfl z⟩)
  rw [s_Vn]
  exact h
theorem R_unitB {d : Nat} {y : Nat × Nat} {X : s_Xo} {w : q_Sm} {Q : q_Sm → Prop} (hf : fR (some y) w) (h : Q w) : s_EvV (d + 2) 0 mX12_readUnit w [.ref 79] Q X := by
  apply eX12_readUnit
  unfold vX12_readUnit_0
  refine R_fine hf (fun z => by simp at z) (fun _ => ⟨fun z => absurd rfl z, fun _ => ?_⟩)
  rw [s_Vn]
  exact h
theorem R_prodB {d : Nat} {y : Nat × Nat} {X : s_Xo} {w : q_Sm} {Q : q_Sm → Prop} (hf : fR (some y) w) (h : Q w) : s_EvV (d + 3) 0 mX12_readProduct w [.ref 79] Q X := by
  apply eX12_readProduct
  unfold vX12_readProduct_0
  refine R_unitB hf ?_
  apply xX12_readProduct_4
  unfold vX12_readProduct_4
  refine R_fine hf (fun z => by simp at z) (fun _ => ⟨fun _ => ?_, fun z => absurd rfl z⟩)
  rw [s_Vn]
  exact h
theorem R_sumB {d : Nat} {y : Nat × Nat} {X : s_Xo} {w : q_Sm} {Q : q_Sm → Prop} (hf : fR (some y) w) (h : Q w) : s_EvV (d + 4) 0 mX12_readSum w [.ref 79] Q X := by
  apply eX12_readSum
  unfold vX12_readSum_0
  refine R_prodB hf ?_
  apply xX12_readSum_4
  unfold vX12_readSum_4
  refine R_fine hf (fun z => by simp at z) (fun _ => ⟨fun _ => ?_, fun z => absurd rfl z⟩)
  rw [s_Vn]
  exact h
theorem R_opens {d N a o n b : Nat} {Y C : Nat → Nat} {X : s_Xo} {w : q_Sm} {Q : q_Sm → Prop} (h6 : o < 6) (hb : a + b ≤ N) (hT : tR N Y a w) (hf : fR none w) (ho : w.1 79 7 = nI o) (hc : lr n C w) (h : ∀ u, fr aRl w u → tR N Y (a + b) u → fR none u → u.1 79 7 = nI (o + 1) → lr n C u → Q u) : s_EvV (d + 2) 0 mX12_opensOne w [.ref 79, .int (nI b)] Q X := by
  apply eX12_opensOne
  unfold vX12_opensOne_0
  refine R_fine hf (fun _ => ⟨fun z => absurd z (by decide), fun _ => ?_⟩) (fun z => absurd rfl z)
  rw [ho, L_6, nI_eq (by omega) (by omega)]
  refine ⟨fun _ => ?_, fun z => absurd (by omega) z⟩
  apply xX12_opensOne_25
  unfold vX12_opensOne_25
  refine R_fine hf (fun _ => ⟨fun z => absurd z (by decide), fun _ => ?_⟩) (fun z => absurd rfl z)
  rintro _ rfl
  apply xX12_opensOne_42
  unfold vX12_opensOne_42
  intro w8 e8
  rw [hT.2.2.2.1, nI_add, rd_j (show 7 ≠ 4 by decide), ho, nI_1 o] at e8
  rw [s_Vn]
  have g : ∀ i j, ¬ (i = 79 ∧ (j = 4 ∨ j = 7)) → w8.1 i j = w.1 i j := fun i j q => by rw [e8, rd_ne (by omega), rd_ne (by omega)]
  refine h w8 (by rw [e8]; exact (fr.wr rfl).put rfl) ⟨hT.1, hb, by rw [g _ _ (by omega)]; exact hT.2.2.1, by rw [e8, rd_j (by decide), rd_s], fun k hk => by rw [g _ _ (by omega)]; exact hT.2.2.2.2 k hk⟩ (hf.mv (g _ _ (by omega)) (g _ _ (by omega))) (by rw [e8, rd_s]) (hc.g (fun i j q => g i j (by omega)))
theorem R_opens6 {d N a b : Nat} {Y : Nat → Nat} {X : s_Xo} {w : q_Sm} {Q : q_Sm → Prop} (hT : tR N Y a w) (hf : fR none w) (ho : w.1 79 7 = nI 6) (h : ∀ u, fr aRl w u → fR (some (3, a)) u → Q u) : s_EvV (d + 2) 0 mX12_opensOne w [.ref 79, .int (nI b)] Q X := by
  apply eX12_opensOne
  unfold vX12_opensOne_0
  refine R_fine hf (fun _ => ⟨fun z => absurd z (by decide), fun _ => ?_⟩) (fun z => absurd rfl z)
  rw [ho]
  refine ⟨fun z => absurd rfl z, fun _ => ?_⟩
  rw [hT.2.2.2.1]
  refine R_wrong (k := 3) hf (by decide) (by decide) (by have := hT.1; have := hT.2.1; omega) (fun u f1 g1 ff1 => ?_)
  apply xX12_opensOne_25
  unfold vX12_opensOne_25
  refine R_fine ff1 (fun z => by simp [orf] at z) (fun _ => ⟨fun _ => ?_, fun z => absurd rfl z⟩)
  apply xX12_opensOne_42
  unfold vX12_opensOne_42
  intro w8 e8
  rw [s_Vn]
  exact h w8 (by rw [e8]; exact (aRl_x f1).put rfl) (ff1.mv (by rw [e8, rd_j (by decide)]) (by rw [e8, rd_j (by decide)]))
/-- the class once a fault stands -/
theorem K_nameB {d N s l : Nat} {Y : Nat → Nat} {y : Nat × Nat} {X : s_Xo} {w : q_Sm} {Q : q_Sm → Prop} (hl : l = 36 ∨ l = 40) (hs : s ≤ N) (hb : sbd l N Y y w) (hT : tC N Y (rn N (pL Y) s) w) (h4 : w.1 2 4 = nI s) (h : ∀ u, fr (aLw l) w u → sbd l N Y y u → Q u) : s_EvV (d + 6) 0 mX5_readName w [.ref l, .ref 2] Q X := by
  have h600 := hT.1
  refine K_readName hl hs hT h4 (fun k x _ _ _ => K_emitB hl hb h) (fun _ => ?_)
  refine K_blame (k := 1) hb.1 (by decide) (by decide) (by omega) (fun u g1 g2 g3 g4 => h u (aLw_T g1) (hb.T hl g1 (hT.mv g1 (g2.trans hT.2.2.2.1) hT.2.1) g4))
theorem K_pairB {d o N s l : Nat} {x : Int32} {Y : Nat → Nat} {y : Nat × Nat} {X : s_Xo} {w : q_Sm} {Q : q_Sm → Prop} (hl : l = 36 ∨ l = 40) (ho : o < 100) (hs : s ≤ N) (hb : sbd l N Y y w) (h4 : w.1 2 4 = nI s) (h : ∀ u, fr (aLw l) w u → sbd l N Y y u → Q u) : s_EvV (d + 3) 0 mX5_readPair w [.ref l, .ref 2, .int (nI o), .int x] Q X := by
  obtain ⟨a, hT⟩ := hb.2.1
  have h600 := hT.1
  apply eX5_readPair
  unfold vX5_readPair_0
  refine K_mayOpenB ho hb.1 ⟨s, by omega, h4⟩ (fun u g1 g2 g4 => ⟨fun _ => ?_, fun z => absurd rfl z⟩)
  rw [s_Vn]
  exact h u (aLw_T g1) (hb.T hl g1 (hT.mv g1 (g2.trans hT.2.2.2.1) hT.2.1) g4)
theorem K_unitB {d o N l : Nat} {Y : Nat → Nat} {y : Nat × Nat} {X : s_Xo} {w : q_Sm} {Q : q_Sm → Prop} (hl : l = 36 ∨ l = 40) (ho : o < 100) (hb : sbd l N Y y w) (h : ∀ u, fr (aLw l) w u → sbd l N Y y u → Q u) : s_EvV (d + 7) 0 mX5_readUnit w [.ref l, .ref 2, .int (nI o)] Q X := by
  obtain ⟨a, hT⟩ := hb.2.1
  have hf := hb.1
  have h' : ∀ u, fr (aLw l) w u → sbd l N Y y u → s_V Q none u := fun u f1 b1 => by rw [s_Vn]; exact h u f1 b1
  apply eX5_readUnit
  unfold vX5_readUnit_0
  refine K_isAtDigit hT hf (fun u fu tu ffu => ⟨fun _ => ?_, fun _ => ?_⟩)
  · refine K_takes (c := 40) (by decide) tu ffu (fun z => by simp at z) (fun _ u2 f2 t2 ff2 => ⟨fun _ => ?_, fun z => absurd rfl z⟩)
    refine K_word (d := d + 4) t2 ff2 (fun u3 f3 t3 ff3 s3 => ?_)
    have hs3 := sk_le (Y := Y) t2.2.1
    have fr3 := (fu.trans f2).trans f3
    have b3 := hb.T hl fr3 t3 ff3
    have hq : ∀ u, fr (aLw l) u3 u → sbd l N Y y u → s_V Q none u := fun u f1 b1 => h' u ((aLw_T fr3).trans f1) b1
    refine K_was (d := d + 1) (by decide) hs3 t3 s3 (fun _ => ⟨fun z => absurd z (by decide), fun _ => ⟨ic_0 hl, K_pairB (d := d + 3) hl ho hs3 b3 s3 hq⟩⟩) (fun _ => ⟨fun _ => ?_, fun z => absurd rfl z⟩)
    refine K_was (d := d + 1) (by decide) hs3 t3 s3 (fun _ => ⟨fun z => absurd z (by decide), fun _ => ⟨ic_0 hl, K_pairB (d := d + 3) hl ho hs3 b3 s3 hq⟩⟩) (fun _ => ⟨fun _ => ⟨ic_0 hl, K_nameB (d := d) hl hs3 b3 t3 s3 hq⟩, fun z => absurd rfl z⟩)
  · refine K_number (d := d + 4) (lo := 0) (hi := 999) (by decide) (by decide) tu ffu (fun u2 f2 t2 ff2 _ => ⟨ic_0 hl, K_emitB hl (hb.T hl (fu.trans f2) t2 ff2) (fun u3 f3 b3 => h' u3 ((aLw_T (fu.trans f2)).trans f3) b3)⟩)
theorem K_prodB {d o N l : Nat} {Y : Nat → Nat} {y : Nat × Nat} {X : s_Xo} {w : q_Sm} {Q : q_Sm → Prop} (hl : l = 36 ∨ l = 40) (ho : o < 100) (hb : sbd l N Y y w) (h : ∀ u, fr (aLw l) w u → sbd l N Y y u → Q u) : s_EvV (d + 8) 0 mX5_readProduct w [.ref l, .ref 2, .int (nI o)] Q X := by
  apply eX5_readProduct
  unfold vX5_readProduct_0
  refine ⟨ic_0 hl, K_unitB (d := d) hl ho hb (fun u fu bu => ?_)⟩
  apply xX5_readProduct_8
  unfold vX5_readProduct_8
  refine ⟨fun z => absurd z (by decide), fun _ => K_failed bu.1 (fun _ => ⟨fun _ => ?_, fun z => absurd (by decide) z⟩) (fun z => by simp at z)⟩
  rw [s_Vn]
  exact h u fu bu
theorem K_sumB {d o N l : Nat} {Y : Nat → Nat} {y : Nat × Nat} {X : s_Xo} {w : q_Sm} {Q : q_Sm → Prop} (hl : l = 36 ∨ l = 40) (ho : o < 100) (hb : sbd l N Y y w) (h : ∀ u, fr (aLw l) w u → sbd l N Y y u → Q u) : s_EvV (d + 9) 0 mX5_readSum w [.ref l, .ref 2, .int (nI o)] Q X := by
  apply eX5_readSum
  unfold vX5_readSum_0
  refine ⟨ic_0 hl, K_prodB (d := d) hl ho hb (fun u fu bu => ?_)⟩
  apply xX5_readSum_8
  unfold vX5_readSum_8
  refine ⟨fun z => absurd z (by decide), fun _ => K_failed bu.1 (fun _ => ⟨fun _ => ?_, fun z => absurd (by decide) z⟩) (fun z => by simp at z)⟩
  rw [s_Vn]
  exact h u fu bu
