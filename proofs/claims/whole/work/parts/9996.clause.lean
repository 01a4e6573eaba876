/-! a clause, class and reference at once -/
theorem rn_eq {N s e : Nat} {p : Nat → Bool} (h1 : s ≤ e) (h2 : e ≤ N) (h3 : ∀ i, s ≤ i → i < e → p i = true) (h4 : e = N ∨ p e = false) : rn N p s = e := by
  obtain ⟨b1, b2, b3, b4⟩ := rn_b (N := N) (p := p) (a := s) (by omega)
  rcases Nat.lt_trichotomy (rn N p s) e with q | q | q
  · have x1 := h3 _ b1 q
    have x2 := b4 (by omega)
    rw [x1] at x2
    cases x2
  · exact q
  · have x1 := b3 e h1 q
    rcases h4 with y | y
    · omega
    · rw [x1] at y
      cases y
theorem R_standsH {d N a r : Nat} {Y : Nat → Nat} {X : s_Xo} {f : Option (Nat × Nat)} {w : q_Sm} {Q : Int32 → q_Sm → Prop} (hr : r < 51) (hT : tR N Y a w) (hf : fR f w)
    (h1 : ∀ u, fr aRx w u → tR N Y (sk N Y a) u → fR f u → wA N Y (sk N Y a) r → Q 1 u) (h0 : ∀ u, fr aRx w u → tR N Y (sk N Y a) u → fR f u → ¬ wA N Y (sk N Y a) r → Q 0 u) : s_EvI (d + 6) 0 mX12_standsHere w [.ref 79, .retAddr r] Q X := by
  have h600 := hT.1
  have hsN := sk_le (Y := Y) hT.2.1
  have hl := (sL_le r hr).1
  have hl0 := (sL_le r hr).2
  apply eX12_standsHere
  unfold vX12_standsHere_0
  refine R_here hT hf (fun u fu tu ffu => ?_)
  have g1 := h1 u fu tu ffu
  have g0 := h0 u fu tu ffu
  clear h1 h0
  generalize sk N Y a = s at g1 g0 tu hsN
  have loop : ∀ j k, k + j = sLn r → (∀ i, i < k → s + i < N ∧ Y (s + i) = sCh r i) → s_Ex (d + 6) 0 mX12_standsHere 7 [some (.ref 79), some (.retAddr r), some (.int (nI k))] [] u (s_I Q) X := by
    intro j
    induction j with
    | zero =>
      intro k hk hc
      have hk : k = sLn r := by omega
      subst hk
      have hin : s + sLn r ≤ N := by have := (hc (sLn r - 1) (by omega)).1; omega
      have hlet : ∀ i, s ≤ i → i < s + sLn r → pL Y i = true := by
        intro i q1 q2
        have := (hc (i - s) (by omega)).2
        obtain ⟨_, _, h3, h5⟩ := sC_v r hr (i - s) (by omega)
        rw [show s + (i - s) = i by omega] at this
        simp [pL]
        omega
      apply xX12_standsHere_7
      unfold vX12_standsHere_7
      refine ⟨hr, S_len hr ?_⟩
      rw [nI_leI (by omega) (by omega)]
      refine ⟨fun _ => ⟨hr, S_len hr ?_⟩, fun z => absurd (by omega) z⟩
      rw [tu.2.2.1, tu.2.2.2.1, nI_add, nI_leI (by omega) (by omega), s_Ii]
      refine ⟨fun z => g1 ⟨?_, fun i hi => (hc i hi).2⟩, fun z => ⟨hr, S_len hr ?_⟩⟩
      · rw [rn_eq (e := s + sLn r) (by omega) hin hlet (Or.inl (by omega))]
        omega
      · obtain ⟨hy, hby⟩ := tu.2.2.2.2 (s + sLn r) (by omega)
        rw [nI_add, nI_clamp (by omega), hby]
        refine ⟨(vp_nI (by omega)).mpr (by omega), R_isSmall hy ?_⟩
        by_cases q : 97 ≤ Y (s + sLn r) ∧ Y (s + sLn r) ≤ 122
        · rw [if_pos q]
          refine ⟨fun _ => ?_, fun z => absurd (by decide) z⟩
          rw [s_Ii]
          refine g0 (fun q2 => ?_)
          have b1 := (rn_b (N := N) (p := pL Y) hsN).1
          have b4 := (rn_b (N := N) (p := pL Y) hsN).2.2.2
          have e := q2.1
          have e2 : rn N (pL Y) s = s + sLn r := by omega
          rw [e2] at b4
          have := b4 (by omega)
          simp [pL] at this
          omega
        · rw [if_neg q]
          refine ⟨fun z => absurd rfl z, fun _ => ?_⟩
          rw [s_Ii]
          refine g1 ⟨?_, fun i hi => (hc i hi).2⟩
          rw [rn_eq (e := s + sLn r) (by omega) hin hlet (Or.inr (decide_eq_false q))]
          omega
    | succ j ih =>
      intro k hk hc
      apply xX12_standsHere_7
      unfold vX12_standsHere_7
      refine ⟨hr, S_len hr ?_⟩
      rw [nI_leI (by omega) (by omega), tu.2.2.1, tu.2.2.2.1, nI_add, nI_leI (by omega) (by omega), s_Ii, nI_1 k]
      refine ⟨fun z => absurd z (by omega), fun _ => ⟨fun z => g0 (fun q => ?_), fun z => ?_⟩⟩
      · have b2 := (rn_b (N := N) (p := pL Y) hsN).2.1
        have := q.1
        omega
      · obtain ⟨hy, hby⟩ := tu.2.2.2.2 (s + k) (by omega)
        obtain ⟨_, _, h3, h5⟩ := sC_v r hr k (by omega)
        refine ⟨(vp_nI (by omega)).mpr (by omega), hr, S_char hr (by omega) ?_⟩
        rw [nI_clamp (by omega), hby, nI_eq (by omega) (by omega), s_Ii]
        refine ⟨fun q => ih (k + 1) (by omega) (fun i hi => ?_), fun q => g0 (fun q2 => q (q2.2 k (by omega)))⟩
        by_cases e : i = k
        · rw [e]; exact ⟨by omega, q⟩
        · exact hc i (by omega)
  exact loop (sLn r) 0 (by omega) (fun i hi => absurd hi (by omega))
theorem cls_27 : sLn 27 = sLn 0 ∧ ∀ i, i < sLn 27 → sCh 27 i = sCh 0 i := by decide +kernel
theorem cls_28 : sLn 28 = sLn 9 ∧ ∀ i, i < sLn 28 → sCh 28 i = sCh 9 i := by decide +kernel
def flg (x : Int32) (P : Prop) : Prop := (x = 1 ∧ P) ∨ (x = 0 ∧ ¬ P)
theorem R_isCr {d N a : Nat} {Y : Nat → Nat} {X : s_Xo} {f : Option (Nat × Nat)} {w : q_Sm} {Q : Int32 → q_Sm → Prop} (hT : tR N Y a w) (hf : fR f w) (h : ∀ u x, fr aRx w u → tR N Y (sk N Y a) u → fR f u → flg x (wA N Y (sk N Y a) 0) → Q x u) : s_EvI (d + 7) 0 mX12_isCreditor w [.ref 79] Q X := by
  apply eX12_isCreditor
  unfold vX12_isCreditor_0
  refine R_standsH (by decide) hT hf (fun u fu tu ffu q => ⟨rfl, ?_⟩) (fun u fu tu ffu q => ⟨rfl, ?_⟩)
  · rw [s_Ii]
    exact h u 1 fu tu ffu (Or.inl ⟨rfl, (wA_c cls_27).mp q⟩)
  · rw [s_Ii]
    exact h u 0 fu tu ffu (Or.inr ⟨rfl, fun z => q ((wA_c cls_27).mpr z)⟩)
theorem R_isWd {d N a : Nat} {Y : Nat → Nat} {X : s_Xo} {f : Option (Nat × Nat)} {w : q_Sm} {Q : Int32 → q_Sm → Prop} (hT : tR N Y a w) (hf : fR f w) (h : ∀ u x, fr aRx w u → tR N Y (sk N Y a) u → fR f u → flg x (wA N Y (sk N Y a) 9) → Q x u) : s_EvI (d + 7) 0 mX12_isWedding w [.ref 79] Q X := by
  apply eX12_isWedding
  unfold vX12_isWedding_0
  refine R_standsH (by decide) hT hf (fun u fu tu ffu q => ⟨rfl, ?_⟩) (fun u fu tu ffu q => ⟨rfl, ?_⟩)
  · rw [s_Ii]
    exact h u 1 fu tu ffu (Or.inl ⟨rfl, (wA_c cls_28).mp q⟩)
  · rw [s_Ii]
    exact h u 0 fu tu ffu (Or.inr ⟨rfl, fun z => q ((wA_c cls_28).mpr z)⟩)
theorem wA_x {N s r r' : Nat} {Y : Nat → Nat} (h : wA N Y s r) (hne : ¬ (sLn r = sLn r' ∧ ∀ i, i < sLn r → sCh r i = sCh r' i)) : ¬ wA N Y s r' := by
  intro h'
  refine hne ⟨h.1.symm.trans h'.1, fun i hi => (h.2 i hi).symm.trans (h'.2 i ?_)⟩
  have := h.1
  have := h'.1
  omega
theorem flg.y {x : Int32} {P : Prop} (h : flg x P) (p : P) : x = 1 := by
  rcases h with h | h
  · exact h.1
  · exact absurd p h.2
theorem flg.n {x : Int32} {P : Prop} (h : flg x P) (p : ¬ P) : x = 0 := by
  rcases h with h | h
  · exact absurd h.2 p
  · exact h.1
def kno (N : Nat) (Y : Nat → Nat) (s : Nat) : Prop := wA N Y s 0 ∨ wA N Y s 9 ∨ wA N Y s 1 ∨ wA N Y s 6 ∨ wA N Y s 7 ∨ wA N Y s 8 ∨ wA N Y s 10 ∨ wA N Y s 11
theorem R_44 {d N a cl : Nat} {Y : Nat → Nat} {X : s_Xo} {w : q_Sm} {Q : s_Po} (hT : tR N Y a w) (hf : fR none w) (hs : sk N Y a < N)
    (hk : kno N Y (sk N Y a) → ∀ u x3 x4, fr aRx w u → tR N Y (sk N Y a) u → fR none u → flg x3 (wA N Y (sk N Y a) 0) → flg x4 (wA N Y (sk N Y a) 9) → s_Ex (d + 10) 0 mX12_coast 161 [some (.ref 79), none, some (.int (nI cl)), some (.int x3), some (.int x4), some (.int (nI (wv6 N Y (sk N Y a))))] [] u Q X)
    (hu : ¬ kno N Y (sk N Y a) → ∀ u, fr aRx w u → fR (some (1, sk N Y a)) u → s_Ex (d + 10) 0 mX12_coast 329 [some (.ref 79), none, none, none, none, none] [] u Q X) : s_Ex (d + 10) 0 mX12_coast 44 [some (.ref 79), none, some (.int (nI cl)), none, none, none] [] w Q X := by
  have h600 := hT.1
  have hsN := sk_le (Y := Y) hT.2.1
  have hss := sk_sk (Y := Y) hT.2.1
  apply xX12_coast_44
  unfold vX12_coast_44
  refine R_fine hf (fun _ => ⟨fun z => absurd z (by decide), fun _ => ?_⟩) (fun z => absurd rfl z)
  refine R_isMore (d := d + 7) hT hf (fun u fu tu ffu _ => ⟨fun z => absurd z (by decide), fun _ => ?_⟩) (fun u _ _ _ z => absurd hs z)
  refine R_isCr (d := d + 2) tu ffu (fun u2 x3 f2 t2 ff2 h3 => ?_)
  refine R_isWd (d := d + 2) t2 ff2 (fun u3 x4 f3 t3 ff3 h4 => ?_)
  refine R_word (d := d + 7) t3 ff3 (fun u4 f4 t4 ff4 => ?_)
  rw [hss] at t2 h3
  simp only [hss] at t3 h4 t4 ⊢
  have fr4 := ((fu.trans f2).trans f3).trans f4
  generalize sk N Y a = s at *
  have go : kno N Y s → s_Ex (d + 10) 0 mX12_coast 161 [some (.ref 79), none, some (.int (nI cl)), some (.int x3), some (.int x4), some (.int (nI (wv6 N Y s)))] [] u4 Q X := fun q => hk q u4 x3 x4 fr4 t4 ff4 h3 h4
  refine ⟨fun z => go (Or.inl ?_), fun z3 => ⟨fun z => go (Or.inr (Or.inl ?_)), fun z4 => ?_⟩⟩
  · rcases h3 with q | q
    · exact q.2
    · exact absurd q.1 z
  · rcases h4 with q | q
    · exact q.2
    · exact absurd q.1 z
  have n3 : ¬ wA N Y s 0 := fun q => z3 (by rw [h3.y q]; decide)
  have n4 : ¬ wA N Y s 9 := fun q => z4 (by rw [h4.y q]; decide)
  refine R_isW (d := d + 4) (Y := Y) (c := 1) hsN (by decide) (by decide) cls_29 (fun x hx => ?_)
  rw [hx]
  refine ⟨fun q => go (Or.inr (Or.inr (Or.inl q))), fun n11 => ?_⟩
  refine R_isW (d := d + 4) (Y := Y) (c := 6) hsN (by decide) (by decide) cls_30 (fun x hx => ?_)
  rw [hx]
  refine ⟨fun q => go (Or.inr (Or.inr (Or.inr (Or.inl q)))), fun n16 => ?_⟩
  refine R_isW (d := d + 4) (Y := Y) (c := 7) hsN (by decide) (by decide) cls_31 (fun x hx => ?_)
  rw [hx]
  refine ⟨fun q => go (Or.inr (Or.inr (Or.inr (Or.inr (Or.inl q))))), fun n17 => ?_⟩
  refine R_isW (d := d + 4) (Y := Y) (c := 8) hsN (by decide) (by decide) cls_32 (fun x hx => ?_)
  rw [hx]
  refine ⟨fun q => go (Or.inr (Or.inr (Or.inr (Or.inr (Or.inr (Or.inl q)))))), fun n18 => ?_⟩
  refine R_isW (d := d + 4) (Y := Y) (c := 10) hsN (by decide) (by decide) cls_33 (fun x hx => ?_)
  rw [hx]
  refine ⟨fun q => go (Or.inr (Or.inr (Or.inr (Or.inr (Or.inr (Or.inr (Or.inl q))))))), fun n20 => ?_⟩
  refine R_isW (d := d + 4) (Y := Y) (c := 11) hsN (by decide) (by decide) cls_34 (fun x hx => ?_)
  rw [hx]
  refine ⟨fun q => go (Or.inr (Or.inr (Or.inr (Or.inr (Or.inr (Or.inr (Or.inr q))))))), fun n21 => ?_⟩
  rw [t4.2.2.2.1]
  refine R_wrong (k := 1) (d := d + 8) ff4 (by decide) (by decide) (by omega) (fun u5 f5 g5 ff5 => ?_)
  apply xX12_coast_242
  unfold vX12_coast_242
  refine R_fine ff5 (fun z => by simp [orf] at z) (fun _ => ⟨fun z => absurd rfl z, fun _ => ?_⟩)
  refine hu (fun q => ?_) u5 (fr4.trans f5) ff5
  rcases q with q | q | q | q | q | q | q | q
  · exact n3 q
  · exact n4 q
  · exact n11 q
  · exact n16 q
  · exact n17 q
  · exact n18 q
  · exact n20 q
  · exact n21 q
def lmt (N : Nat) (Y : Nat → Nat) (s cl : Nat) (T : Tb) : Prop := cl = 60 ∨ (wA N Y s 0 ∧ T 7 0 = 6) ∨ (wA N Y s 9 ∧ T 7 3 = 6) ∨ (wA N Y s 1 ∧ T 7 1 = 10) ∨ (wA N Y s 6 ∧ T 7 2 = 12)
theorem R_161 {d N s cl : Nat} {x3 x4 : Int32} {Y : Nat → Nat} {T : Tb} {X : s_Xo} {w : q_Sm} {Q : s_Po} (ht : tb T) (hcl : cl ≤ 60) (hT : tR N Y s w) (hf : fR none w) (hD : rD T w) (h3 : flg x3 (wA N Y s 0)) (h4 : flg x4 (wA N Y s 9))
    (h0 : lmt N Y s cl T → ∀ u, fr aRx w u → fR (some (3, s)) u → s_Ex (d + 10) 0 mX12_coast 329 [some (.ref 79), none, none, none, none, none] [] u Q X)
    (h1 : ¬ lmt N Y s cl T → s_Ex (d + 10) 0 mX12_coast 242 [some (.ref 79), none, some (.int (nI cl)), some (.int x3), some (.int x4), some (.int (nI (wv6 N Y s)))] [] w Q X) : s_Ex (d + 10) 0 mX12_coast 161 [some (.ref 79), none, some (.int (nI cl)), some (.int x3), some (.int x4), some (.int (nI (wv6 N Y s)))] [] w Q X := by
  have h600 := hT.1
  have hsN := hT.2.1
  obtain ⟨t0, t1, t2, t3, _⟩ := ht.1
  have bad : lmt N Y s cl T → s_Ex (d + 10) 0 mX12_coast 233 [some (.ref 79), none, some (.int (nI cl)), some (.int x3), some (.int x4), some (.int (nI (wv6 N Y s)))] [] w Q X := by
    intro q
    apply xX12_coast_233
    unfold vX12_coast_233
    rw [hT.2.2.2.1]
    refine R_wrong (k := 3) (d := d + 8) hf (by decide) (by decide) (by omega) (fun u5 f5 g5 ff5 => ?_)
    apply xX12_coast_242
    unfold vX12_coast_242
    exact R_fine ff5 (fun z => by simp [orf] at z) (fun _ => ⟨fun z => absurd rfl z, fun _ => h0 q u5 f5 ff5⟩)
  have p213 : ¬ (cl = 60 ∨ (wA N Y s 0 ∧ T 7 0 = 6) ∨ (wA N Y s 9 ∧ T 7 3 = 6) ∨ (wA N Y s 1 ∧ T 7 1 = 10)) → s_Ex (d + 10) 0 mX12_coast 213 [some (.ref 79), none, some (.int (nI cl)), some (.int x3), some (.int x4), some (.int (nI (wv6 N Y s)))] [] w Q X := by
    intro q
    apply xX12_coast_213
    unfold vX12_coast_213
    refine R_isW (d := d + 4) (Y := Y) (c := 6) hsN (by decide) (by decide) cls_30 (fun x hx => ?_)
    rw [hx, hD.1.2.2.1, L_12, nI_eq (by omega) (by omega)]
    refine ⟨fun z => h1 (fun y => ?_), fun z => ⟨fun z2 => h1 (fun y => ?_), fun z2 => bad (Or.inr (Or.inr (Or.inr (Or.inr ⟨Classical.not_not.mp z, Classical.not_not.mp z2⟩))))⟩⟩
    · rcases y with y | y | y | y | y
      · exact q (Or.inl y)
      · exact q (Or.inr (Or.inl y))
      · exact q (Or.inr (Or.inr (Or.inl y)))
      · exact q (Or.inr (Or.inr (Or.inr y)))
      · exact z y.1
    · rcases y with y | y | y | y | y
      · exact q (Or.inl y)
      · exact q (Or.inr (Or.inl y))
      · exact q (Or.inr (Or.inr (Or.inl y)))
      · exact q (Or.inr (Or.inr (Or.inr y)))
      · exact z2 y.2
  have p194 : ¬ (cl = 60 ∨ (wA N Y s 0 ∧ T 7 0 = 6) ∨ (wA N Y s 9 ∧ T 7 3 = 6)) → s_Ex (d + 10) 0 mX12_coast 194 [some (.ref 79), none, some (.int (nI cl)), some (.int x3), some (.int x4), some (.int (nI (wv6 N Y s)))] [] w Q X := by
    intro q
    apply xX12_coast_194
    unfold vX12_coast_194
    refine R_isW (d := d + 4) (Y := Y) (c := 1) hsN (by decide) (by decide) cls_29 (fun x hx => ?_)
    rw [hx, hD.1.2.1, L_10, nI_eq (by omega) (by omega)]
    refine ⟨fun z => p213 (fun y => ?_), fun z => ⟨fun z2 => bad (Or.inr (Or.inr (Or.inr (Or.inl ⟨Classical.not_not.mp z, z2⟩)))), fun z2 => p213 (fun y => ?_)⟩⟩
    · rcases y with y | y | y | y
      · exact q (Or.inl y)
      · exact q (Or.inr (Or.inl y))
      · exact q (Or.inr (Or.inr y))
      · exact z y.1
    · rcases y with y | y | y | y
      · exact q (Or.inl y)
      · exact q (Or.inr (Or.inl y))
      · exact q (Or.inr (Or.inr y))
      · exact z2 y.2
  have p180 : ¬ (cl = 60 ∨ (wA N Y s 0 ∧ T 7 0 = 6)) → s_Ex (d + 10) 0 mX12_coast 180 [some (.ref 79), none, some (.int (nI cl)), some (.int x3), some (.int x4), some (.int (nI (wv6 N Y s)))] [] w Q X := by
    intro q
    apply xX12_coast_180
    unfold vX12_coast_180
    rw [hD.1.2.2.2.1, L_6, nI_eq (by omega) (by omega)]
    refine ⟨fun z => p194 (fun y => ?_), fun z => ⟨fun z2 => bad (Or.inr (Or.inr (Or.inl ⟨?_, z2⟩))), fun z2 => p194 (fun y => ?_)⟩⟩
    · rcases y with y | y | y
      · exact q (Or.inl y)
      · exact q (Or.inr y)
      · rw [h4.y y.1] at z
        exact absurd z (by decide)
    · rcases h4 with y | y
      · exact y.2
      · exact absurd y.1 z
    · rcases y with y | y | y
      · exact q (Or.inl y)
      · exact q (Or.inr y)
      · exact z2 y.2
  apply xX12_coast_161
  unfold vX12_coast_161
  rw [hD.1.1, L_60, L_6, nI_eq (by omega) (by omega), nI_eq (by omega) (by omega)]
  refine ⟨fun z => bad (Or.inl z), fun z => ⟨fun z2 => p180 (fun y => ?_), fun z2 => ⟨fun z3 => bad (Or.inr (Or.inl ⟨?_, z3⟩)), fun z3 => p180 (fun y => ?_)⟩⟩⟩
  · rcases y with y | y
    · exact z y
    · rw [h3.y y.1] at z2
      exact absurd z2 (by decide)
  · rcases h3 with y | y
    · exact y.2
    · exact absurd y.1 z2
  · rcases y with y | y
    · exact z y
    · exact z3 y.2
/-- the sign behind a clause -/
theorem R_317 {d N a2 cl : Nat} {Y : Nat → Nat} {T' : Tb} {F : Option (Nat × Nat)} {X : s_Xo} {w : q_Sm} {Q : s_Po} (hf : fR F w) (hD : F = none → tR N Y a2 w ∧ rD T' w)
    (h : ∀ u, fr aRc w u → fR (orf F (sig N Y 59 a2).1) u → (orf F (sig N Y 59 a2).1 = none → tR N Y (sig N Y 59 a2).2 u ∧ rD T' u) → s_Ex (d + 10) 0 mX12_coast 44 [some (.ref 79), none, some (.int (nI (cl + 1))), none, none, none] [] u Q X) : s_Ex (d + 10) 0 mX12_coast 317 [some (.ref 79), none, some (.int (nI cl)), none, none, none] [] w Q X := by
  apply xX12_coast_317
  unfold vX12_coast_317
  rw [nI_1 cl]
  cases F with
  | some y => exact R_signB (d := d + 7) hf (h w (fr.refl _ _) hf (fun z => by simp [orf] at z))
  | none =>
    obtain ⟨h1, h2⟩ := hD rfl
    refine R_sign (d := d + 7) (c := 59) (by decide) (by decide) h1 hf (fun u a' fu tu ha ffu => ?_)
    exact h u (aRc_x fu) ffu (fun z => ⟨by rw [← ha z]; exact tu, h2.x fu⟩)
theorem K_admit1 {d : Nat} {x : Int32} {X : s_Xo} {w : q_Sm} {Q : q_Sm → Prop} (h : Q w) : s_EvV (d + 1) 0 mX2_admit w [.ref 2, .int x, .int 1] Q X := by
  apply eX2_admit
  unfold vX2_admit_0
  rw [s_Vn]
  exact ⟨fun _ => h, fun z => absurd (by decide) z⟩
theorem K_admit0 {d s : Nat} {f : Option (Nat × Nat)} {X : s_Xo} {w : q_Sm} {Q : q_Sm → Prop} (hf : fC f w) (hs : s ≤ 600) (h : ∀ u, fr aTx w u → u.1 2 3 = w.1 2 3 → fC (orf f (some (3, s))) u → Q u) : s_EvV (d + 2) 0 mX2_admit w [.ref 2, .int (nI s), .int 0] Q X := by
  apply eX2_admit
  unfold vX2_admit_0
  refine ⟨fun z => absurd rfl z, fun _ => K_blame (k := 3) hf (by decide) (by decide) hs (fun u g1 g2 g3 g4 => ?_)⟩
  rw [s_Vn]
  exact h u g1 g2 g4
theorem K_clcr {d N a o cl : Nat} {rm : Int32} {Y : Nat → Nat} {T : Tb} {X : s_Xo} {w : q_Sm} {Q : q_Sm → Prop} (ho : o = 4 ∨ o = 20) (ht : tb T)  (hw : wA N Y (sk N Y a) 0) (hrm : flg rm (cl < 60)) (hT : tC N Y a w) (hf : fC none w) (hD : cD o T w)
    (h : ∀ u fa, (fa = none ∧ cl < 60 ∧ T 7 0 < 6) ∨ (fa = some (3, sk N Y a) ∧ ¬ (cl < 60 ∧ T 7 0 < 6)) → fr (aCo o) w u → tC N Y (crA N Y T (rn N (pL Y) (sk N Y a))) u → fC (orf fa (crF N Y T (rn N (pL Y) (sk N Y a)))) u → (orf fa (crF N Y T (rn N (pL Y) (sk N Y a))) = none → cD o (crT N Y T (rn N (pL Y) (sk N Y a))) u) → (orf fa (crF N Y T (rn N (pL Y) (sk N Y a))) ≠ none → cD o T u) → Q u) : s_EvV (d + 8) 0 mX2_readClause w [.ref o, .ref 2, .int rm] Q X := by
  have h600 := hT.1
  have hsN := sk_le (Y := Y) hT.2.1
  have tb0 := ht.1
  apply eX2_readClause
  unfold vX2_readClause_0
  refine K_word (d := d + 5) hT hf (fun u2 f2 t2 ff2 s2 => K_start ?_)
  rw [s2]
  have d2 := hD.T ho f2
  refine K_was (d := d + 2) (by decide) hsN t2 s2 (fun _ => ⟨fun z => absurd z (by decide), fun _ => ?_⟩) (fun z => absurd hw z)
  have adm0 : ¬ (cl < 60 ∧ T 7 0 < 6) → s_EvV (d + 7) 0 mX2_admit u2 [.ref 2, .int (nI (sk N Y a)), .int 0] (fun u24 => q_id 116 2 o ∧ s_EvV (d + 7) 0 mX2_readCreditor u24 [.ref o, .ref 2] (fun u26 => s_V Q none u26) X) X := by
    intro hno
    refine K_admit0 (d := d + 5) ff2 (by omega) (fun u3 g1 g2 g4 => ⟨ia_0 ho, ?_⟩)
    refine K_rdcr (d := d + 4) ho ht (fun z => by simp [orf] at z) (t2.mv g1 (g2.trans t2.2.2.2.1) t2.2.1) g4 (d2.T ho g1) (fun u4 f4 t4 ff4 a4 b4 => ?_)
    rw [s_Vn]
    exact h u4 (some (3, sk N Y a)) (Or.inr ⟨rfl, hno⟩) ((aCo_T (f2.trans g1)).trans f4) t4 ff4 a4 b4
  have adm1 : cl < 60 ∧ T 7 0 < 6 → s_EvV (d + 7) 0 mX2_admit u2 [.ref 2, .int (nI (sk N Y a)), .int 1] (fun u24 => q_id 116 2 o ∧ s_EvV (d + 7) 0 mX2_readCreditor u24 [.ref o, .ref 2] (fun u26 => s_V Q none u26) X) X := by
    intro hyes
    refine K_admit1 (d := d + 6) ⟨ia_0 ho, ?_⟩
    refine K_rdcr (d := d + 4) ho ht (fun _ => hyes.2) t2 ff2 d2 (fun u4 f4 t4 ff4 a4 b4 => ?_)
    rw [s_Vn]
    exact h u4 none (Or.inl ⟨rfl, hyes⟩) ((aCo_T f2).trans f4) t4 ff4 a4 b4
  have hcu : u2.1 o 0 = nI (T 7 0) := d2.1.1
  rw [hcu, L_6, nI_leI (by omega) (by omega)]
  refine ⟨fun z => adm0 (fun q => ?_), fun z => ⟨ia_0 ho, fun z2 => adm0 (fun q => by omega), fun z2 => adm1 ⟨?_, by omega⟩⟩⟩
  · rw [hrm.y q.1] at z
    exact absurd z (by decide)
  · rcases hrm with y | y
    · exact y.2
    · exact absurd y.1 z
theorem K_cldb {d N a o cl : Nat} {rm : Int32} {Y : Nat → Nat} {T : Tb} {X : s_Xo} {w : q_Sm} {Q : q_Sm → Prop} (ho : o = 4 ∨ o = 20) (ht : tb T) (hn0 : ¬ wA N Y (sk N Y a) 0) (hw : wA N Y (sk N Y a) 1) (hrm : flg rm (cl < 60)) (hT : tC N Y a w) (hf : fC none w) (hD : cD o T w)
    (h : ∀ u fa, (fa = none ∧ cl < 60 ∧ T 7 1 < 10) ∨ (fa = some (3, sk N Y a) ∧ ¬ (cl < 60 ∧ T 7 1 < 10)) → fr (aCo o) w u → tC N Y (dbA N Y T (rn N (pL Y) (sk N Y a))) u → fC (orf fa (dbF N Y T (rn N (pL Y) (sk N Y a)))) u → (orf fa (dbF N Y T (rn N (pL Y) (sk N Y a))) = none → cD o (dbT N Y T (rn N (pL Y) (sk N Y a))) u) → (orf fa (dbF N Y T (rn N (pL Y) (sk N Y a))) ≠ none → cD o T u) → Q u) : s_EvV (d + 8) 0 mX2_readClause w [.ref o, .ref 2, .int rm] Q X := by
  have h600 := hT.1
  have hsN := sk_le (Y := Y) hT.2.1
  have tb0 := ht.1
  apply eX2_readClause
  unfold vX2_readClause_0
  refine K_word (d := d + 5) hT hf (fun u2 f2 t2 ff2 s2 => K_start ?_)
  rw [s2]
  have d2 := hD.T ho f2
  refine K_was (d := d + 2) (by decide) hsN t2 s2 (fun z => absurd z hn0) (fun _ => ⟨fun _ => ?_, fun z => absurd rfl z⟩)
  refine K_was (d := d + 2) (by decide) hsN t2 s2 (fun _ => ⟨fun z => absurd z (by decide), fun _ => ?_⟩) (fun z => absurd hw z)
  have adm0 : ¬ (cl < 60 ∧ T 7 1 < 10) → s_EvV (d + 7) 0 mX2_admit u2 [.ref 2, .int (nI (sk N Y a)), .int 0] (fun u24 => q_id 116 2 o ∧ s_EvV (d + 7) 0 mX2_readDebt u24 [.ref o, .ref 2] (fun u26 => s_V Q none u26) X) X := by
    intro hno
    refine K_admit0 (d := d + 5) ff2 (by omega) (fun u3 g1 g2 g4 => ⟨ia_0 ho, ?_⟩)
    refine K_rddb (d := d + 0) ho ht (fun z => by simp [orf] at z) (t2.mv g1 (g2.trans t2.2.2.2.1) t2.2.1) g4 (d2.T ho g1) (fun u4 f4 t4 ff4 a4 b4 => ?_)
    rw [s_Vn]
    exact h u4 (some (3, sk N Y a)) (Or.inr ⟨rfl, hno⟩) ((aCo_T (f2.trans g1)).trans f4) t4 ff4 a4 b4
  have adm1 : cl < 60 ∧ T 7 1 < 10 → s_EvV (d + 7) 0 mX2_admit u2 [.ref 2, .int (nI (sk N Y a)), .int 1] (fun u24 => q_id 116 2 o ∧ s_EvV (d + 7) 0 mX2_readDebt u24 [.ref o, .ref 2] (fun u26 => s_V Q none u26) X) X := by
    intro hyes
    refine K_admit1 (d := d + 6) ⟨ia_0 ho, ?_⟩
    refine K_rddb (d := d + 0) ho ht (fun _ => hyes.2) t2 ff2 d2 (fun u4 f4 t4 ff4 a4 b4 => ?_)
    rw [s_Vn]
    exact h u4 none (Or.inl ⟨rfl, hyes⟩) ((aCo_T f2).trans f4) t4 ff4 a4 b4
  have hcu : u2.1 o 3 = nI (T 7 1) := d2.1.2.1
  rw [hcu, L_10, nI_leI (by omega) (by omega)]
  refine ⟨fun z => adm0 (fun q => ?_), fun z => ⟨ia_0 ho, fun z2 => adm0 (fun q => by omega), fun z2 => adm1 ⟨?_, by omega⟩⟩⟩
  · rw [hrm.y q.1] at z
    exact absurd z (by decide)
  · rcases hrm with y | y
    · exact y.2
    · exact absurd y.1 z
theorem K_cldk {d N a o cl : Nat} {rm : Int32} {Y : Nat → Nat} {T : Tb} {X : s_Xo} {w : q_Sm} {Q : q_Sm → Prop} (ho : o = 4 ∨ o = 20) (ht : tb T) (hn0 : ¬ wA N Y (sk N Y a) 0) (hn1 : ¬ wA N Y (sk N Y a) 1) (hw : wA N Y (sk N Y a) 6) (hrm : flg rm (cl < 60)) (hT : tC N Y a w) (hf : fC none w) (hD : cD o T w)
    (h : ∀ u fa, (fa = none ∧ cl < 60 ∧ T 7 2 < 12) ∨ (fa = some (3, sk N Y a) ∧ ¬ (cl < 60 ∧ T 7 2 < 12)) → fr (aCo o) w u → tC N Y (dkA N Y T (rn N (pL Y) (sk N Y a))) u → fC (orf fa (dkF N Y T (rn N (pL Y) (sk N Y a)))) u → (orf fa (dkF N Y T (rn N (pL Y) (sk N Y a))) = none → cD o (dkT N Y T (rn N (pL Y) (sk N Y a))) u) → (orf fa (dkF N Y T (rn N (pL Y) (sk N Y a))) ≠ none → cD o T u) → Q u) : s_EvV (d + 8) 0 mX2_readClause w [.ref o, .ref 2, .int rm] Q X := by
  have h600 := hT.1
  have hsN := sk_le (Y := Y) hT.2.1
  have tb0 := ht.1
  apply eX2_readClause
  unfold vX2_readClause_0
  refine K_word (d := d + 5) hT hf (fun u2 f2 t2 ff2 s2 => K_start ?_)
  rw [s2]
  have d2 := hD.T ho f2
  refine K_was (d := d + 2) (by decide) hsN t2 s2 (fun z => absurd z hn0) (fun _ => ⟨fun _ => ?_, fun z => absurd rfl z⟩)
  refine K_was (d := d + 2) (by decide) hsN t2 s2 (fun z => absurd z hn1) (fun _ => ⟨fun _ => ?_, fun z => absurd rfl z⟩)
  refine K_was (d := d + 2) (by decide) hsN t2 s2 (fun _ => ⟨fun z => absurd z (by decide), fun _ => ?_⟩) (fun z => absurd hw z)
  have adm0 : ¬ (cl < 60 ∧ T 7 2 < 12) → s_EvV (d + 7) 0 mX2_admit u2 [.ref 2, .int (nI (sk N Y a)), .int 0] (fun u24 => q_id 116 2 o ∧ s_EvV (d + 7) 0 mX2_readDusk u24 [.ref o, .ref 2] (fun u26 => s_V Q none u26) X) X := by
    intro hno
    refine K_admit0 (d := d + 5) ff2 (by omega) (fun u3 g1 g2 g4 => ⟨ia_0 ho, ?_⟩)
    refine K_rddk (d := d + 4) ho ht (fun z => by simp [orf] at z) (t2.mv g1 (g2.trans t2.2.2.2.1) t2.2.1) g4 (d2.T ho g1) (fun u4 f4 t4 ff4 a4 b4 => ?_)
    rw [s_Vn]
    exact h u4 (some (3, sk N Y a)) (Or.inr ⟨rfl, hno⟩) ((aCo_T (f2.trans g1)).trans f4) t4 ff4 a4 b4
  have adm1 : cl < 60 ∧ T 7 2 < 12 → s_EvV (d + 7) 0 mX2_admit u2 [.ref 2, .int (nI (sk N Y a)), .int 1] (fun u24 => q_id 116 2 o ∧ s_EvV (d + 7) 0 mX2_readDusk u24 [.ref o, .ref 2] (fun u26 => s_V Q none u26) X) X := by
    intro hyes
    refine K_admit1 (d := d + 6) ⟨ia_0 ho, ?_⟩
    refine K_rddk (d := d + 4) ho ht (fun _ => hyes.2) t2 ff2 d2 (fun u4 f4 t4 ff4 a4 b4 => ?_)
    rw [s_Vn]
    exact h u4 none (Or.inl ⟨rfl, hyes⟩) ((aCo_T f2).trans f4) t4 ff4 a4 b4
  have hcu : u2.1 o 10 = nI (T 7 2) := d2.1.2.2.1
  rw [hcu, L_12, nI_leI (by omega) (by omega)]
  refine ⟨fun z => adm0 (fun q => ?_), fun z => ⟨ia_0 ho, fun z2 => adm0 (fun q => by omega), fun z2 => adm1 ⟨?_, by omega⟩⟩⟩
  · rw [hrm.y q.1] at z
    exact absurd z (by decide)
  · rcases hrm with y | y
    · exact y.2
    · exact absurd y.1 z
theorem K_clrg {d N a o cl : Nat} {rm : Int32} {Y : Nat → Nat} {T : Tb} {X : s_Xo} {w : q_Sm} {Q : q_Sm → Prop} (ho : o = 4 ∨ o = 20) (ht : tb T) (hn0 : ¬ wA N Y (sk N Y a) 0) (hn1 : ¬ wA N Y (sk N Y a) 1) (hn6 : ¬ wA N Y (sk N Y a) 6) (hw : wA N Y (sk N Y a) 7) (hrm : flg rm (cl < 60)) (hT : tC N Y a w) (hf : fC none w) (hD : cD o T w)
    (h : ∀ u fa, (fa = none ∧ cl < 60) ∨ (fa = some (3, sk N Y a) ∧ ¬ (cl < 60)) → fr (aCo o) w u → tC N Y (rgA N Y T (rn N (pL Y) (sk N Y a))) u → fC (orf fa (rgF N Y T (rn N (pL Y) (sk N Y a)))) u → (orf fa (rgF N Y T (rn N (pL Y) (sk N Y a))) = none → cD o (rgT N Y T (rn N (pL Y) (sk N Y a))) u) → (orf fa (rgF N Y T (rn N (pL Y) (sk N Y a))) ≠ none → cD o T u) → Q u) : s_EvV (d + 8) 0 mX2_readClause w [.ref o, .ref 2, .int rm] Q X := by
  have h600 := hT.1
  have hsN := sk_le (Y := Y) hT.2.1
  have tb0 := ht.1
  apply eX2_readClause
  unfold vX2_readClause_0
  refine K_word (d := d + 5) hT hf (fun u2 f2 t2 ff2 s2 => K_start ?_)
  rw [s2]
  have d2 := hD.T ho f2
  refine K_was (d := d + 2) (by decide) hsN t2 s2 (fun z => absurd z hn0) (fun _ => ⟨fun _ => ?_, fun z => absurd rfl z⟩)
  refine K_was (d := d + 2) (by decide) hsN t2 s2 (fun z => absurd z hn1) (fun _ => ⟨fun _ => ?_, fun z => absurd rfl z⟩)
  refine K_was (d := d + 2) (by decide) hsN t2 s2 (fun z => absurd z hn6) (fun _ => ⟨fun _ => ?_, fun z => absurd rfl z⟩)
  refine K_was (d := d + 2) (by decide) hsN t2 s2 (fun _ => ⟨fun z => absurd z (by decide), fun _ => ?_⟩) (fun z => absurd hw z)
  have adm0 : ¬ (cl < 60) → s_EvV (d + 7) 0 mX2_admit u2 [.ref 2, .int (nI (sk N Y a)), .int 0] (fun u24 => q_id 116 2 o ∧ s_EvV (d + 7) 0 mX2_readRidge u24 [.ref o, .ref 2] (fun u26 => s_V Q none u26) X) X := by
    intro hno
    refine K_admit0 (d := d + 5) ff2 (by omega) (fun u3 g1 g2 g4 => ⟨ia_0 ho, ?_⟩)
    refine K_rdrg (d := d + 4) ho ht (t2.mv g1 (g2.trans t2.2.2.2.1) t2.2.1) g4 (d2.T ho g1) (fun u4 f4 t4 ff4 a4 b4 => ?_)
    rw [s_Vn]
    exact h u4 (some (3, sk N Y a)) (Or.inr ⟨rfl, hno⟩) ((aCo_T (f2.trans g1)).trans f4) t4 ff4 a4 b4
  have adm1 : cl < 60 → s_EvV (d + 7) 0 mX2_admit u2 [.ref 2, .int (nI (sk N Y a)), .int 1] (fun u24 => q_id 116 2 o ∧ s_EvV (d + 7) 0 mX2_readRidge u24 [.ref o, .ref 2] (fun u26 => s_V Q none u26) X) X := by
    intro hyes
    refine K_admit1 (d := d + 6) ⟨ia_0 ho, ?_⟩
    refine K_rdrg (d := d + 4) ho ht t2 ff2 d2 (fun u4 f4 t4 ff4 a4 b4 => ?_)
    rw [s_Vn]
    exact h u4 none (Or.inl ⟨rfl, hyes⟩) ((aCo_T f2).trans f4) t4 ff4 a4 b4
  rcases hrm with ⟨e, y⟩ | ⟨e, y⟩
  · subst e
    exact adm1 y
  · subst e
    exact adm0 y
theorem K_cllp {d N a o cl : Nat} {rm : Int32} {Y : Nat → Nat} {T : Tb} {X : s_Xo} {w : q_Sm} {Q : q_Sm → Prop} (ho : o = 4 ∨ o = 20) (ht : tb T) (hn0 : ¬ wA N Y (sk N Y a) 0) (hn1 : ¬ wA N Y (sk N Y a) 1) (hn6 : ¬ wA N Y (sk N Y a) 6) (hn7 : ¬ wA N Y (sk N Y a) 7) (hw : wA N Y (sk N Y a) 8) (hrm : flg rm (cl < 60)) (hT : tC N Y a w) (hf : fC none w) (hD : cD o T w)
    (h : ∀ u fa, (fa = none ∧ cl < 60) ∨ (fa = some (3, sk N Y a) ∧ ¬ (cl < 60)) → fr (aCo o) w u → tC N Y (lpA N Y T (rn N (pL Y) (sk N Y a))) u → fC (orf fa (lpF N Y T (rn N (pL Y) (sk N Y a)))) u → (orf fa (lpF N Y T (rn N (pL Y) (sk N Y a))) = none → cD o (lpT N Y T (rn N (pL Y) (sk N Y a))) u) → (orf fa (lpF N Y T (rn N (pL Y) (sk N Y a))) ≠ none → cD o T u) → Q u) : s_EvV (d + 8) 0 mX2_readClause w [.ref o, .ref 2, .int rm] Q X := by
  have h600 := hT.1
  have hsN := sk_le (Y := Y) hT.2.1
  have tb0 := ht.1
  apply eX2_readClause
  unfold vX2_readClause_0
  refine K_word (d := d + 5) hT hf (fun u2 f2 t2 ff2 s2 => K_start ?_)
  rw [s2]
  have d2 := hD.T ho f2
  refine K_was (d := d + 2) (by decide) hsN t2 s2 (fun z => absurd z hn0) (fun _ => ⟨fun _ => ?_, fun z => absurd rfl z⟩)
  refine K_was (d := d + 2) (by decide) hsN t2 s2 (fun z => absurd z hn1) (fun _ => ⟨fun _ => ?_, fun z => absurd rfl z⟩)
  refine K_was (d := d + 2) (by decide) hsN t2 s2 (fun z => absurd z hn6) (fun _ => ⟨fun _ => ?_, fun z => absurd rfl z⟩)
  refine K_was (d := d + 2) (by decide) hsN t2 s2 (fun z => absurd z hn7) (fun _ => ⟨fun _ => ?_, fun z => absurd rfl z⟩)
  refine K_was (d := d + 2) (by decide) hsN t2 s2 (fun _ => ⟨fun z => absurd z (by decide), fun _ => ?_⟩) (fun z => absurd hw z)
  have adm0 : ¬ (cl < 60) → s_EvV (d + 7) 0 mX2_admit u2 [.ref 2, .int (nI (sk N Y a)), .int 0] (fun u24 => q_id 116 2 o ∧ s_EvV (d + 7) 0 mX2_readLamp u24 [.ref o, .ref 2] (fun u26 => s_V Q none u26) X) X := by
    intro hno
    refine K_admit0 (d := d + 5) ff2 (by omega) (fun u3 g1 g2 g4 => ⟨ia_0 ho, ?_⟩)
    refine K_rdlp (d := d + 0) ho ht (t2.mv g1 (g2.trans t2.2.2.2.1) t2.2.1) g4 (d2.T ho g1) (fun u4 f4 t4 ff4 a4 b4 => ?_)
    rw [s_Vn]
    exact h u4 (some (3, sk N Y a)) (Or.inr ⟨rfl, hno⟩) ((aCo_T (f2.trans g1)).trans f4) t4 ff4 a4 b4
  have adm1 : cl < 60 → s_EvV (d + 7) 0 mX2_admit u2 [.ref 2, .int (nI (sk N Y a)), .int 1] (fun u24 => q_id 116 2 o ∧ s_EvV (d + 7) 0 mX2_readLamp u24 [.ref o, .ref 2] (fun u26 => s_V Q none u26) X) X := by
    intro hyes
    refine K_admit1 (d := d + 6) ⟨ia_0 ho, ?_⟩
    refine K_rdlp (d := d + 0) ho ht t2 ff2 d2 (fun u4 f4 t4 ff4 a4 b4 => ?_)
    rw [s_Vn]
    exact h u4 none (Or.inl ⟨rfl, hyes⟩) ((aCo_T f2).trans f4) t4 ff4 a4 b4
  rcases hrm with ⟨e, y⟩ | ⟨e, y⟩
  · subst e
    exact adm1 y
  · subst e
    exact adm0 y
theorem K_clwd {d N a o cl : Nat} {rm : Int32} {Y : Nat → Nat} {T : Tb} {X : s_Xo} {w : q_Sm} {Q : q_Sm → Prop} (ho : o = 4 ∨ o = 20) (ht : tb T) (hn0 : ¬ wA N Y (sk N Y a) 0) (hn1 : ¬ wA N Y (sk N Y a) 1) (hn6 : ¬ wA N Y (sk N Y a) 6) (hn7 : ¬ wA N Y (sk N Y a) 7) (hn8 : ¬ wA N Y (sk N Y a) 8) (hw : wA N Y (sk N Y a) 9) (hrm : flg rm (cl < 60)) (hT : tC N Y a w) (hf : fC none w) (hD : cD o T w)
    (h : ∀ u fa, (fa = none ∧ cl < 60 ∧ T 7 3 < 6) ∨ (fa = some (3, sk N Y a) ∧ ¬ (cl < 60 ∧ T 7 3 < 6)) → fr (aCo o) w u → tC N Y (wdA N Y T (rn N (pL Y) (sk N Y a))) u → fC (orf fa (wdF N Y T (rn N (pL Y) (sk N Y a)))) u → (orf fa (wdF N Y T (rn N (pL Y) (sk N Y a))) = none → cD o (wdT N Y T (rn N (pL Y) (sk N Y a))) u) → (orf fa (wdF N Y T (rn N (pL Y) (sk N Y a))) ≠ none → cD o T u) → Q u) : s_EvV (d + 8) 0 mX2_readClause w [.ref o, .ref 2, .int rm] Q X := by
  have h600 := hT.1
  have hsN := sk_le (Y := Y) hT.2.1
  have tb0 := ht.1
  apply eX2_readClause
  unfold vX2_readClause_0
  refine K_word (d := d + 5) hT hf (fun u2 f2 t2 ff2 s2 => K_start ?_)
  rw [s2]
  have d2 := hD.T ho f2
  refine K_was (d := d + 2) (by decide) hsN t2 s2 (fun z => absurd z hn0) (fun _ => ⟨fun _ => ?_, fun z => absurd rfl z⟩)
  refine K_was (d := d + 2) (by decide) hsN t2 s2 (fun z => absurd z hn1) (fun _ => ⟨fun _ => ?_, fun z => absurd rfl z⟩)
  refine K_was (d := d + 2) (by decide) hsN t2 s2 (fun z => absurd z hn6) (fun _ => ⟨fun _ => ?_, fun z => absurd rfl z⟩)
  refine K_was (d := d + 2) (by decide) hsN t2 s2 (fun z => absurd z hn7) (fun _ => ⟨fun _ => ?_, fun z => absurd rfl z⟩)
  refine K_was (d := d + 2) (by decide) hsN t2 s2 (fun z => absurd z hn8) (fun _ => ⟨fun _ => ?_, fun z => absurd rfl z⟩)
  refine K_was (d := d + 2) (by decide) hsN t2 s2 (fun _ => ⟨fun z => absurd z (by decide), fun _ => ?_⟩) (fun z => absurd hw z)
  have adm0 : ¬ (cl < 60 ∧ T 7 3 < 6) → s_EvV (d + 7) 0 mX2_admit u2 [.ref 2, .int (nI (sk N Y a)), .int 0] (fun u24 => q_id 116 2 o ∧ s_EvV (d + 7) 0 mX2_readWedding u24 [.ref o, .ref 2] (fun u26 => s_V Q none u26) X) X := by
    intro hno
    refine K_admit0 (d := d + 5) ff2 (by omega) (fun u3 g1 g2 g4 => ⟨ia_0 ho, ?_⟩)
    refine K_rdwd (d := d + 0) ho ht (fun z => by simp [orf] at z) (t2.mv g1 (g2.trans t2.2.2.2.1) t2.2.1) g4 (d2.T ho g1) (fun u4 f4 t4 ff4 a4 b4 => ?_)
    rw [s_Vn]
    exact h u4 (some (3, sk N Y a)) (Or.inr ⟨rfl, hno⟩) ((aCo_T (f2.trans g1)).trans f4) t4 ff4 a4 b4
  have adm1 : cl < 60 ∧ T 7 3 < 6 → s_EvV (d + 7) 0 mX2_admit u2 [.ref 2, .int (nI (sk N Y a)), .int 1] (fun u24 => q_id 116 2 o ∧ s_EvV (d + 7) 0 mX2_readWedding u24 [.ref o, .ref 2] (fun u26 => s_V Q none u26) X) X := by
    intro hyes
    refine K_admit1 (d := d + 6) ⟨ia_0 ho, ?_⟩
    refine K_rdwd (d := d + 0) ho ht (fun _ => hyes.2) t2 ff2 d2 (fun u4 f4 t4 ff4 a4 b4 => ?_)
    rw [s_Vn]
    exact h u4 none (Or.inl ⟨rfl, hyes⟩) ((aCo_T f2).trans f4) t4 ff4 a4 b4
  have hcu : u2.1 o 14 = nI (T 7 3) := d2.1.2.2.2.1
  rw [hcu, L_6, nI_leI (by omega) (by omega)]
  refine ⟨fun z => adm0 (fun q => ?_), fun z => ⟨ia_0 ho, fun z2 => adm0 (fun q => by omega), fun z2 => adm1 ⟨?_, by omega⟩⟩⟩
  · rw [hrm.y q.1] at z
    exact absurd z (by decide)
  · rcases hrm with y | y
    · exact y.2
    · exact absurd y.1 z
theorem K_clfg {d N a o cl : Nat} {rm : Int32} {Y : Nat → Nat} {T : Tb} {X : s_Xo} {w : q_Sm} {Q : q_Sm → Prop} (ho : o = 4 ∨ o = 20) (ht : tb T) (hn0 : ¬ wA N Y (sk N Y a) 0) (hn1 : ¬ wA N Y (sk N Y a) 1) (hn6 : ¬ wA N Y (sk N Y a) 6) (hn7 : ¬ wA N Y (sk N Y a) 7) (hn8 : ¬ wA N Y (sk N Y a) 8) (hn9 : ¬ wA N Y (sk N Y a) 9) (hw : wA N Y (sk N Y a) 10) (hrm : flg rm (cl < 60)) (hT : tC N Y a w) (hf : fC none w) (hD : cD o T w)
    (h : ∀ u fa, (fa = none ∧ cl < 60) ∨ (fa = some (3, sk N Y a) ∧ ¬ (cl < 60)) → fr (aCo o) w u → tC N Y (fgA N Y T (rn N (pL Y) (sk N Y a))) u → fC (orf fa (fgF N Y T (rn N (pL Y) (sk N Y a)))) u → (orf fa (fgF N Y T (rn N (pL Y) (sk N Y a))) = none → cD o (fgT N Y T (rn N (pL Y) (sk N Y a))) u) → (orf fa (fgF N Y T (rn N (pL Y) (sk N Y a))) ≠ none → cD o T u) → Q u) : s_EvV (d + 8) 0 mX2_readClause w [.ref o, .ref 2, .int rm] Q X := by
  have h600 := hT.1
  have hsN := sk_le (Y := Y) hT.2.1
  have tb0 := ht.1
  apply eX2_readClause
  unfold vX2_readClause_0
  refine K_word (d := d + 5) hT hf (fun u2 f2 t2 ff2 s2 => K_start ?_)
  rw [s2]
  have d2 := hD.T ho f2
  refine K_was (d := d + 2) (by decide) hsN t2 s2 (fun z => absurd z hn0) (fun _ => ⟨fun _ => ?_, fun z => absurd rfl z⟩)
  refine K_was (d := d + 2) (by decide) hsN t2 s2 (fun z => absurd z hn1) (fun _ => ⟨fun _ => ?_, fun z => absurd rfl z⟩)
  refine K_was (d := d + 2) (by decide) hsN t2 s2 (fun z => absurd z hn6) (fun _ => ⟨fun _ => ?_, fun z => absurd rfl z⟩)
  refine K_was (d := d + 2) (by decide) hsN t2 s2 (fun z => absurd z hn7) (fun _ => ⟨fun _ => ?_, fun z => absurd rfl z⟩)
  refine K_was (d := d + 2) (by decide) hsN t2 s2 (fun z => absurd z hn8) (fun _ => ⟨fun _ => ?_, fun z => absurd rfl z⟩)
  refine K_was (d := d + 2) (by decide) hsN t2 s2 (fun z => absurd z hn9) (fun _ => ⟨fun _ => ?_, fun z => absurd rfl z⟩)
  refine K_was (d := d + 2) (by decide) hsN t2 s2 (fun _ => ⟨fun z => absurd z (by decide), fun _ => ?_⟩) (fun z => absurd hw z)
  have adm0 : ¬ (cl < 60) → s_EvV (d + 7) 0 mX2_admit u2 [.ref 2, .int (nI (sk N Y a)), .int 0] (fun u24 => q_id 116 2 o ∧ s_EvV (d + 7) 0 mX2_readFog u24 [.ref o, .ref 2] (fun u26 => s_V Q none u26) X) X := by
    intro hno
    refine K_admit0 (d := d + 5) ff2 (by omega) (fun u3 g1 g2 g4 => ⟨ia_0 ho, ?_⟩)
    refine K_rdfg (d := d + 4) ho ht (t2.mv g1 (g2.trans t2.2.2.2.1) t2.2.1) g4 (d2.T ho g1) (fun u4 f4 t4 ff4 a4 b4 => ?_)
    rw [s_Vn]
    exact h u4 (some (3, sk N Y a)) (Or.inr ⟨rfl, hno⟩) ((aCo_T (f2.trans g1)).trans f4) t4 ff4 a4 b4
  have adm1 : cl < 60 → s_EvV (d + 7) 0 mX2_admit u2 [.ref 2, .int (nI (sk N Y a)), .int 1] (fun u24 => q_id 116 2 o ∧ s_EvV (d + 7) 0 mX2_readFog u24 [.ref o, .ref 2] (fun u26 => s_V Q none u26) X) X := by
    intro hyes
    refine K_admit1 (d := d + 6) ⟨ia_0 ho, ?_⟩
    refine K_rdfg (d := d + 4) ho ht t2 ff2 d2 (fun u4 f4 t4 ff4 a4 b4 => ?_)
    rw [s_Vn]
    exact h u4 none (Or.inl ⟨rfl, hyes⟩) ((aCo_T f2).trans f4) t4 ff4 a4 b4
  rcases hrm with ⟨e, y⟩ | ⟨e, y⟩
  · subst e
    exact adm1 y
  · subst e
    exact adm0 y
theorem K_clow {d N a o cl : Nat} {rm : Int32} {Y : Nat → Nat} {T : Tb} {X : s_Xo} {w : q_Sm} {Q : q_Sm → Prop} (ho : o = 4 ∨ o = 20) (ht : tb T) (hn0 : ¬ wA N Y (sk N Y a) 0) (hn1 : ¬ wA N Y (sk N Y a) 1) (hn6 : ¬ wA N Y (sk N Y a) 6) (hn7 : ¬ wA N Y (sk N Y a) 7) (hn8 : ¬ wA N Y (sk N Y a) 8) (hn9 : ¬ wA N Y (sk N Y a) 9) (hn10 : ¬ wA N Y (sk N Y a) 10) (hw : wA N Y (sk N Y a) 11) (hrm : flg rm (cl < 60)) (hT : tC N Y a w) (hf : fC none w) (hD : cD o T w)
    (h : ∀ u fa, (fa = none ∧ cl < 60) ∨ (fa = some (3, sk N Y a) ∧ ¬ (cl < 60)) → fr (aCo o) w u → tC N Y (owA N Y T (rn N (pL Y) (sk N Y a))) u → fC (orf fa (owF N Y T (rn N (pL Y) (sk N Y a)))) u → (orf fa (owF N Y T (rn N (pL Y) (sk N Y a))) = none → cD o (owT N Y T (rn N (pL Y) (sk N Y a))) u) → (orf fa (owF N Y T (rn N (pL Y) (sk N Y a))) ≠ none → cD o T u) → Q u) : s_EvV (d + 8) 0 mX2_readClause w [.ref o, .ref 2, .int rm] Q X := by
  have h600 := hT.1
  have hsN := sk_le (Y := Y) hT.2.1
  have tb0 := ht.1
  apply eX2_readClause
  unfold vX2_readClause_0
  refine K_word (d := d + 5) hT hf (fun u2 f2 t2 ff2 s2 => K_start ?_)
  rw [s2]
  have d2 := hD.T ho f2
  refine K_was (d := d + 2) (by decide) hsN t2 s2 (fun z => absurd z hn0) (fun _ => ⟨fun _ => ?_, fun z => absurd rfl z⟩)
  refine K_was (d := d + 2) (by decide) hsN t2 s2 (fun z => absurd z hn1) (fun _ => ⟨fun _ => ?_, fun z => absurd rfl z⟩)
  refine K_was (d := d + 2) (by decide) hsN t2 s2 (fun z => absurd z hn6) (fun _ => ⟨fun _ => ?_, fun z => absurd rfl z⟩)
  refine K_was (d := d + 2) (by decide) hsN t2 s2 (fun z => absurd z hn7) (fun _ => ⟨fun _ => ?_, fun z => absurd rfl z⟩)
  refine K_was (d := d + 2) (by decide) hsN t2 s2 (fun z => absurd z hn8) (fun _ => ⟨fun _ => ?_, fun z => absurd rfl z⟩)
  refine K_was (d := d + 2) (by decide) hsN t2 s2 (fun z => absurd z hn9) (fun _ => ⟨fun _ => ?_, fun z => absurd rfl z⟩)
  refine K_was (d := d + 2) (by decide) hsN t2 s2 (fun z => absurd z hn10) (fun _ => ⟨fun _ => ?_, fun z => absurd rfl z⟩)
  refine K_was (d := d + 2) (by decide) hsN t2 s2 (fun _ => ⟨fun z => absurd z (by decide), fun _ => ?_⟩) (fun z => absurd hw z)
  have adm0 : ¬ (cl < 60) → s_EvV (d + 7) 0 mX2_admit u2 [.ref 2, .int (nI (sk N Y a)), .int 0] (fun u24 => q_id 116 2 o ∧ s_EvV (d + 7) 0 mX2_readLoan u24 [.ref o, .ref 2] (fun u26 => s_V Q none u26) X) X := by
    intro hno
    refine K_admit0 (d := d + 5) ff2 (by omega) (fun u3 g1 g2 g4 => ⟨ia_0 ho, ?_⟩)
    refine K_rdow (d := d + 4) ho ht (t2.mv g1 (g2.trans t2.2.2.2.1) t2.2.1) g4 (d2.T ho g1) (fun u4 f4 t4 ff4 a4 b4 => ?_)
    rw [s_Vn]
    exact h u4 (some (3, sk N Y a)) (Or.inr ⟨rfl, hno⟩) ((aCo_T (f2.trans g1)).trans f4) t4 ff4 a4 b4
  have adm1 : cl < 60 → s_EvV (d + 7) 0 mX2_admit u2 [.ref 2, .int (nI (sk N Y a)), .int 1] (fun u24 => q_id 116 2 o ∧ s_EvV (d + 7) 0 mX2_readLoan u24 [.ref o, .ref 2] (fun u26 => s_V Q none u26) X) X := by
    intro hyes
    refine K_admit1 (d := d + 6) ⟨ia_0 ho, ?_⟩
    refine K_rdow (d := d + 4) ho ht t2 ff2 d2 (fun u4 f4 t4 ff4 a4 b4 => ?_)
    rw [s_Vn]
    exact h u4 none (Or.inl ⟨rfl, hyes⟩) ((aCo_T f2).trans f4) t4 ff4 a4 b4
  rcases hrm with ⟨e, y⟩ | ⟨e, y⟩
  · subst e
    exact adm1 y
  · subst e
    exact adm0 y
theorem K_clno {d N a o : Nat} {rm : Int32} {Y : Nat → Nat} {X : s_Xo} {w : q_Sm} {Q : q_Sm → Prop} (hno : ¬ kno N Y (sk N Y a)) (hT : tC N Y a w) (hf : fC none w) (h : ∀ u, fr aTx w u → tC N Y (rn N (pL Y) (sk N Y a)) u → fC (some (1, sk N Y a)) u → Q u) : s_EvV (d + 8) 0 mX2_readClause w [.ref o, .ref 2, .int rm] Q X := by
  have h600 := hT.1
  have hsN := sk_le (Y := Y) hT.2.1
  unfold kno at hno
  apply eX2_readClause
  unfold vX2_readClause_0
  refine K_word (d := d + 5) hT hf (fun u2 f2 t2 ff2 s2 => K_start ?_)
  rw [s2]
  refine K_was (d := d + 2) (by decide) hsN t2 s2 (fun z => absurd (Or.inl z) hno) (fun _ => ⟨fun _ => ?_, fun z => absurd rfl z⟩)
  refine K_was (d := d + 2) (by decide) hsN t2 s2 (fun z => absurd (Or.inr (Or.inr (Or.inl z))) hno) (fun _ => ⟨fun _ => ?_, fun z => absurd rfl z⟩)
  refine K_was (d := d + 2) (by decide) hsN t2 s2 (fun z => absurd (Or.inr (Or.inr (Or.inr (Or.inl z)))) hno) (fun _ => ⟨fun _ => ?_, fun z => absurd rfl z⟩)
  refine K_was (d := d + 2) (by decide) hsN t2 s2 (fun z => absurd (Or.inr (Or.inr (Or.inr (Or.inr (Or.inl z))))) hno) (fun _ => ⟨fun _ => ?_, fun z => absurd rfl z⟩)
  refine K_was (d := d + 2) (by decide) hsN t2 s2 (fun z => absurd (Or.inr (Or.inr (Or.inr (Or.inr (Or.inr (Or.inl z)))))) hno) (fun _ => ⟨fun _ => ?_, fun z => absurd rfl z⟩)
  refine K_was (d := d + 2) (by decide) hsN t2 s2 (fun z => absurd (Or.inr (Or.inl z)) hno) (fun _ => ⟨fun _ => ?_, fun z => absurd rfl z⟩)
  refine K_was (d := d + 2) (by decide) hsN t2 s2 (fun z => absurd (Or.inr (Or.inr (Or.inr (Or.inr (Or.inr (Or.inr (Or.inl z))))))) hno) (fun _ => ⟨fun _ => ?_, fun z => absurd rfl z⟩)
  refine K_was (d := d + 2) (by decide) hsN t2 s2 (fun z => absurd (Or.inr (Or.inr (Or.inr (Or.inr (Or.inr (Or.inr (Or.inr z))))))) hno) (fun _ => ⟨fun _ => ?_, fun z => absurd rfl z⟩)
  refine K_blame (k := 1) ff2 (by decide) (by decide) (by omega) (fun u3 g1 g2 g3 g4 => ?_)
  rw [s_Vn]
  exact h u3 (f2.trans g1) (t2.mv g1 (g2.trans t2.2.2.2.1) t2.2.1) g4
theorem R_gocr {d N s cl : Nat} {x3 x4 : Int32} {Y : Nat → Nat} {T : Tb} {X : s_Xo} {w : q_Sm} {Q : s_Po} (ht : tb T)  (hw : wA N Y s 0) (hr : T 7 0 < 6) (hT : tR N Y s w) (hf : fR none w) (hD : rD T w) (h3 : flg x3 (wA N Y s 0)) (h4 : flg x4 (wA N Y s 9))
    (h : ∀ u, fr aRc w u → fR (orf (crF N Y T (rn N (pL Y) s)) (sig N Y 59 (crA N Y T (rn N (pL Y) s))).1) u → (orf (crF N Y T (rn N (pL Y) s)) (sig N Y 59 (crA N Y T (rn N (pL Y) s))).1 = none → tR N Y (sig N Y 59 (crA N Y T (rn N (pL Y) s))).2 u ∧ rD (crT N Y T (rn N (pL Y) s)) u) → s_Ex (d + 10) 0 mX12_coast 44 [some (.ref 79), none, some (.int (nI (cl + 1))), none, none, none] [] u Q X) : s_Ex (d + 10) 0 mX12_coast 242 [some (.ref 79), none, some (.int (nI cl)), some (.int x3), some (.int x4), some (.int (nI (wv6 N Y s)))] [] w Q X := by
  have hsN := hT.2.1
  apply xX12_coast_242
  unfold vX12_coast_242
  refine R_fine hf (fun _ => ⟨fun _ => ?_, fun z => absurd (by decide) z⟩) (fun z => absurd rfl z)
  have hlen : rn N (pL Y) s = s + 8 := by
    have e1 := hw.1
    have e2 : sLn 0 = 8 := by decide
    have := (rn_b (N := N) (p := pL Y) hsN).1
    omega
  have hle := (rn_b (N := N) (p := pL Y) hsN).2.1
  have e3 := h3.y hw
  subst e3
  refine ⟨fun _ => ?_, fun z => absurd (by decide) z⟩
  apply xX12_coast_261
  unfold vX12_coast_261
  refine ⟨fun z => absurd z (by decide), fun _ => ?_⟩
  intro w1 e1
  have e1 : w1 = q_wI w 79 4 (nI (s + 8)) := by
    rw [e1, hT.2.2.2.1, L_8, nI_add]
  have f1 : fr aRx w w1 := by rw [e1]; exact fr.wr rfl
  have t1 : tR N Y (rn N (pL Y) s) w1 := hT.mv f1 (by rw [e1, rd_s, hlen]) hle
  have ff1 : fR none w1 := hf.mv (by rw [e1, rd_j (by decide)]) (by rw [e1, rd_j (by decide)])
  apply xX12_coast_288
  unfold vX12_coast_288
  refine ⟨fun z => absurd z (by decide), fun _ => ?_⟩
  refine S_rdcr (d := d + 6) ht hr t1 ff1 (hD.x f1) (fun u2 f2 ff2 c2 => ?_)
  exact R_317 ff2 c2 (fun u3 f3 ff3 c3 => h u3 (((aRc_x f1).trans f2).trans f3) ff3 c3)
theorem R_godb {d N s cl : Nat} {x3 x4 : Int32} {Y : Nat → Nat} {T : Tb} {X : s_Xo} {w : q_Sm} {Q : s_Po} (ht : tb T)  (hw : wA N Y s 1) (hr : T 7 1 < 10) (hT : tR N Y s w) (hf : fR none w) (hD : rD T w) (h3 : flg x3 (wA N Y s 0)) (h4 : flg x4 (wA N Y s 9))
    (h : ∀ u, fr aRc w u → fR (orf (dbF N Y T (rn N (pL Y) s)) (sig N Y 59 (dbA N Y T (rn N (pL Y) s))).1) u → (orf (dbF N Y T (rn N (pL Y) s)) (sig N Y 59 (dbA N Y T (rn N (pL Y) s))).1 = none → tR N Y (sig N Y 59 (dbA N Y T (rn N (pL Y) s))).2 u ∧ rD (dbT N Y T (rn N (pL Y) s)) u) → s_Ex (d + 10) 0 mX12_coast 44 [some (.ref 79), none, some (.int (nI (cl + 1))), none, none, none] [] u Q X) : s_Ex (d + 10) 0 mX12_coast 242 [some (.ref 79), none, some (.int (nI cl)), some (.int x3), some (.int x4), some (.int (nI (wv6 N Y s)))] [] w Q X := by
  have hsN := hT.2.1
  apply xX12_coast_242
  unfold vX12_coast_242
  refine R_fine hf (fun _ => ⟨fun _ => ?_, fun z => absurd (by decide) z⟩) (fun z => absurd rfl z)
  have e3 := h3.n (wA_x hw (by decide +kernel))
  have e4 := h4.n (wA_x hw (by decide +kernel))
  subst e3 e4
  refine ⟨fun z => absurd rfl z, fun _ => ⟨fun _ => ?_, fun z => absurd rfl z⟩⟩
  refine R_pass (d := d + 7) (N - s) s w _ (by omega) hT hf (fun w1 f1 t1 ff1 => ?_)
  apply xX12_coast_288
  unfold vX12_coast_288
  refine ⟨fun _ => ⟨fun _ => ?_, fun z => absurd rfl z⟩, fun z => absurd rfl z⟩
  refine S_rddb (d := d) ht hsN hw hr t1 ff1 (hD.x f1) (fun u2 f2 ff2 c2 => ?_)
  exact R_317 ff2 c2 (fun u3 f3 ff3 c3 => h u3 (((aRc_x f1).trans f2).trans f3) ff3 c3)
theorem R_godk {d N s cl : Nat} {x3 x4 : Int32} {Y : Nat → Nat} {T : Tb} {X : s_Xo} {w : q_Sm} {Q : s_Po} (ht : tb T) (hn1 : ¬ wA N Y s 1) (hw : wA N Y s 6) (hr : T 7 2 < 12) (hT : tR N Y s w) (hf : fR none w) (hD : rD T w) (h3 : flg x3 (wA N Y s 0)) (h4 : flg x4 (wA N Y s 9))
    (h : ∀ u, fr aRc w u → fR (orf (dkF N Y T (rn N (pL Y) s)) (sig N Y 59 (dkA N Y T (rn N (pL Y) s))).1) u → (orf (dkF N Y T (rn N (pL Y) s)) (sig N Y 59 (dkA N Y T (rn N (pL Y) s))).1 = none → tR N Y (sig N Y 59 (dkA N Y T (rn N (pL Y) s))).2 u ∧ rD (dkT N Y T (rn N (pL Y) s)) u) → s_Ex (d + 10) 0 mX12_coast 44 [some (.ref 79), none, some (.int (nI (cl + 1))), none, none, none] [] u Q X) : s_Ex (d + 10) 0 mX12_coast 242 [some (.ref 79), none, some (.int (nI cl)), some (.int x3), some (.int x4), some (.int (nI (wv6 N Y s)))] [] w Q X := by
  have hsN := hT.2.1
  apply xX12_coast_242
  unfold vX12_coast_242
  refine R_fine hf (fun _ => ⟨fun _ => ?_, fun z => absurd (by decide) z⟩) (fun z => absurd rfl z)
  have e3 := h3.n (wA_x hw (by decide +kernel))
  have e4 := h4.n (wA_x hw (by decide +kernel))
  subst e3 e4
  refine ⟨fun z => absurd rfl z, fun _ => ⟨fun _ => ?_, fun z => absurd rfl z⟩⟩
  refine R_pass (d := d + 7) (N - s) s w _ (by omega) hT hf (fun w1 f1 t1 ff1 => ?_)
  apply xX12_coast_288
  unfold vX12_coast_288
  refine ⟨fun _ => ⟨fun _ => ?_, fun z => absurd rfl z⟩, fun z => absurd rfl z⟩
  refine S_rddk (d := d) ht hsN hn1 hw hr t1 ff1 (hD.x f1) (fun u2 f2 ff2 c2 => ?_)
  exact R_317 ff2 c2 (fun u3 f3 ff3 c3 => h u3 (((aRc_x f1).trans f2).trans f3) ff3 c3)
theorem R_gorg {d N s cl : Nat} {x3 x4 : Int32} {Y : Nat → Nat} {T : Tb} {X : s_Xo} {w : q_Sm} {Q : s_Po} (ht : tb T) (hn1 : ¬ wA N Y s 1) (hn6 : ¬ wA N Y s 6) (hw : wA N Y s 7)  (hT : tR N Y s w) (hf : fR none w) (hD : rD T w) (h3 : flg x3 (wA N Y s 0)) (h4 : flg x4 (wA N Y s 9))
    (h : ∀ u, fr aRc w u → fR (orf (rgF N Y T (rn N (pL Y) s)) (sig N Y 59 (rgA N Y T (rn N (pL Y) s))).1) u → (orf (rgF N Y T (rn N (pL Y) s)) (sig N Y 59 (rgA N Y T (rn N (pL Y) s))).1 = none → tR N Y (sig N Y 59 (rgA N Y T (rn N (pL Y) s))).2 u ∧ rD (rgT N Y T (rn N (pL Y) s)) u) → s_Ex (d + 10) 0 mX12_coast 44 [some (.ref 79), none, some (.int (nI (cl + 1))), none, none, none] [] u Q X) : s_Ex (d + 10) 0 mX12_coast 242 [some (.ref 79), none, some (.int (nI cl)), some (.int x3), some (.int x4), some (.int (nI (wv6 N Y s)))] [] w Q X := by
  have hsN := hT.2.1
  apply xX12_coast_242
  unfold vX12_coast_242
  refine R_fine hf (fun _ => ⟨fun _ => ?_, fun z => absurd (by decide) z⟩) (fun z => absurd rfl z)
  have e3 := h3.n (wA_x hw (by decide +kernel))
  have e4 := h4.n (wA_x hw (by decide +kernel))
  subst e3 e4
  refine ⟨fun z => absurd rfl z, fun _ => ⟨fun _ => ?_, fun z => absurd rfl z⟩⟩
  refine R_pass (d := d + 7) (N - s) s w _ (by omega) hT hf (fun w1 f1 t1 ff1 => ?_)
  apply xX12_coast_288
  unfold vX12_coast_288
  refine ⟨fun _ => ⟨fun _ => ?_, fun z => absurd rfl z⟩, fun z => absurd rfl z⟩
  refine S_rdrg (d := d) ht hsN hn1 hn6 hw t1 ff1 (hD.x f1) (fun u2 f2 ff2 c2 => ?_)
  exact R_317 ff2 c2 (fun u3 f3 ff3 c3 => h u3 (((aRc_x f1).trans f2).trans f3) ff3 c3)
theorem R_golp {d N s cl : Nat} {x3 x4 : Int32} {Y : Nat → Nat} {T : Tb} {X : s_Xo} {w : q_Sm} {Q : s_Po} (ht : tb T) (hn1 : ¬ wA N Y s 1) (hn6 : ¬ wA N Y s 6) (hn7 : ¬ wA N Y s 7) (hw : wA N Y s 8)  (hT : tR N Y s w) (hf : fR none w) (hD : rD T w) (h3 : flg x3 (wA N Y s 0)) (h4 : flg x4 (wA N Y s 9))
    (h : ∀ u, fr aRc w u → fR (orf (lpF N Y T (rn N (pL Y) s)) (sig N Y 59 (lpA N Y T (rn N (pL Y) s))).1) u → (orf (lpF N Y T (rn N (pL Y) s)) (sig N Y 59 (lpA N Y T (rn N (pL Y) s))).1 = none → tR N Y (sig N Y 59 (lpA N Y T (rn N (pL Y) s))).2 u ∧ rD (lpT N Y T (rn N (pL Y) s)) u) → s_Ex (d + 10) 0 mX12_coast 44 [some (.ref 79), none, some (.int (nI (cl + 1))), none, none, none] [] u Q X) : s_Ex (d + 10) 0 mX12_coast 242 [some (.ref 79), none, some (.int (nI cl)), some (.int x3), some (.int x4), some (.int (nI (wv6 N Y s)))] [] w Q X := by
  have hsN := hT.2.1
  apply xX12_coast_242
  unfold vX12_coast_242
  refine R_fine hf (fun _ => ⟨fun _ => ?_, fun z => absurd (by decide) z⟩) (fun z => absurd rfl z)
  have e3 := h3.n (wA_x hw (by decide +kernel))
  have e4 := h4.n (wA_x hw (by decide +kernel))
  subst e3 e4
  refine ⟨fun z => absurd rfl z, fun _ => ⟨fun _ => ?_, fun z => absurd rfl z⟩⟩
  refine R_pass (d := d + 7) (N - s) s w _ (by omega) hT hf (fun w1 f1 t1 ff1 => ?_)
  apply xX12_coast_288
  unfold vX12_coast_288
  refine ⟨fun _ => ⟨fun _ => ?_, fun z => absurd rfl z⟩, fun z => absurd rfl z⟩
  refine S_rdlp (d := d) ht hsN hn1 hn6 hn7 hw t1 ff1 (hD.x f1) (fun u2 f2 ff2 c2 => ?_)
  exact R_317 ff2 c2 (fun u3 f3 ff3 c3 => h u3 (((aRc_x f1).trans f2).trans f3) ff3 c3)
theorem R_gowd {d N s cl : Nat} {x3 x4 : Int32} {Y : Nat → Nat} {T : Tb} {X : s_Xo} {w : q_Sm} {Q : s_Po} (ht : tb T)  (hw : wA N Y s 9) (hr : T 7 3 < 6) (hT : tR N Y s w) (hf : fR none w) (hD : rD T w) (h3 : flg x3 (wA N Y s 0)) (h4 : flg x4 (wA N Y s 9))
    (h : ∀ u, fr aRc w u → fR (orf (wdF N Y T (rn N (pL Y) s)) (sig N Y 59 (wdA N Y T (rn N (pL Y) s))).1) u → (orf (wdF N Y T (rn N (pL Y) s)) (sig N Y 59 (wdA N Y T (rn N (pL Y) s))).1 = none → tR N Y (sig N Y 59 (wdA N Y T (rn N (pL Y) s))).2 u ∧ rD (wdT N Y T (rn N (pL Y) s)) u) → s_Ex (d + 10) 0 mX12_coast 44 [some (.ref 79), none, some (.int (nI (cl + 1))), none, none, none] [] u Q X) : s_Ex (d + 10) 0 mX12_coast 242 [some (.ref 79), none, some (.int (nI cl)), some (.int x3), some (.int x4), some (.int (nI (wv6 N Y s)))] [] w Q X := by
  have hsN := hT.2.1
  apply xX12_coast_242
  unfold vX12_coast_242
  refine R_fine hf (fun _ => ⟨fun _ => ?_, fun z => absurd (by decide) z⟩) (fun z => absurd rfl z)
  have hlen : rn N (pL Y) s = s + 7 := by
    have e1 := hw.1
    have e2 : sLn 9 = 7 := by decide
    have := (rn_b (N := N) (p := pL Y) hsN).1
    omega
  have hle := (rn_b (N := N) (p := pL Y) hsN).2.1
  have e3 := h3.n (wA_x hw (by decide +kernel))
  have e4 := h4.y hw
  subst e3 e4
  refine ⟨fun z => absurd rfl z, fun _ => ⟨fun z => absurd z (by decide), fun _ => ?_⟩⟩
  apply xX12_coast_261
  unfold vX12_coast_261
  refine ⟨fun _ => ?_, fun z => absurd rfl z⟩
  intro w1 e1
  have e1 : w1 = q_wI w 79 4 (nI (s + 7)) := by
    rw [e1, hT.2.2.2.1, L_7, nI_add]
  have f1 : fr aRx w w1 := by rw [e1]; exact fr.wr rfl
  have t1 : tR N Y (rn N (pL Y) s) w1 := hT.mv f1 (by rw [e1, rd_s, hlen]) hle
  have ff1 : fR none w1 := hf.mv (by rw [e1, rd_j (by decide)]) (by rw [e1, rd_j (by decide)])
  apply xX12_coast_288
  unfold vX12_coast_288
  refine ⟨fun _ => ⟨fun z => absurd z (by decide), fun _ => ?_⟩, fun z => absurd rfl z⟩
  refine S_rdwd (d := d + 1) ht hr t1 ff1 (hD.x f1) (fun u2 f2 ff2 c2 => ?_)
  exact R_317 ff2 c2 (fun u3 f3 ff3 c3 => h u3 (((aRc_x f1).trans f2).trans f3) ff3 c3)
theorem R_gofg {d N s cl : Nat} {x3 x4 : Int32} {Y : Nat → Nat} {T : Tb} {X : s_Xo} {w : q_Sm} {Q : s_Po} (ht : tb T) (hn1 : ¬ wA N Y s 1) (hn6 : ¬ wA N Y s 6) (hn7 : ¬ wA N Y s 7) (hn8 : ¬ wA N Y s 8) (hw : wA N Y s 10)  (hT : tR N Y s w) (hf : fR none w) (hD : rD T w) (h3 : flg x3 (wA N Y s 0)) (h4 : flg x4 (wA N Y s 9))
    (h : ∀ u, fr aRc w u → fR (orf (fgF N Y T (rn N (pL Y) s)) (sig N Y 59 (fgA N Y T (rn N (pL Y) s))).1) u → (orf (fgF N Y T (rn N (pL Y) s)) (sig N Y 59 (fgA N Y T (rn N (pL Y) s))).1 = none → tR N Y (sig N Y 59 (fgA N Y T (rn N (pL Y) s))).2 u ∧ rD (fgT N Y T (rn N (pL Y) s)) u) → s_Ex (d + 10) 0 mX12_coast 44 [some (.ref 79), none, some (.int (nI (cl + 1))), none, none, none] [] u Q X) : s_Ex (d + 10) 0 mX12_coast 242 [some (.ref 79), none, some (.int (nI cl)), some (.int x3), some (.int x4), some (.int (nI (wv6 N Y s)))] [] w Q X := by
  have hsN := hT.2.1
  apply xX12_coast_242
  unfold vX12_coast_242
  refine R_fine hf (fun _ => ⟨fun _ => ?_, fun z => absurd (by decide) z⟩) (fun z => absurd rfl z)
  have e3 := h3.n (wA_x hw (by decide +kernel))
  have e4 := h4.n (wA_x hw (by decide +kernel))
  subst e3 e4
  refine ⟨fun z => absurd rfl z, fun _ => ⟨fun _ => ?_, fun z => absurd rfl z⟩⟩
  refine R_pass (d := d + 7) (N - s) s w _ (by omega) hT hf (fun w1 f1 t1 ff1 => ?_)
  apply xX12_coast_288
  unfold vX12_coast_288
  refine ⟨fun _ => ⟨fun _ => ?_, fun z => absurd rfl z⟩, fun z => absurd rfl z⟩
  refine S_rdfg (d := d) ht hsN hn1 hn6 hn7 hn8 hw t1 ff1 (hD.x f1) (fun u2 f2 ff2 c2 => ?_)
  exact R_317 ff2 c2 (fun u3 f3 ff3 c3 => h u3 (((aRc_x f1).trans f2).trans f3) ff3 c3)
theorem R_goow {d N s cl : Nat} {x3 x4 : Int32} {Y : Nat → Nat} {T : Tb} {X : s_Xo} {w : q_Sm} {Q : s_Po} (ht : tb T) (hn1 : ¬ wA N Y s 1) (hn6 : ¬ wA N Y s 6) (hn7 : ¬ wA N Y s 7) (hn8 : ¬ wA N Y s 8) (hn10 : ¬ wA N Y s 10) (hw : wA N Y s 11)  (hT : tR N Y s w) (hf : fR none w) (hD : rD T w) (h3 : flg x3 (wA N Y s 0)) (h4 : flg x4 (wA N Y s 9))
    (h : ∀ u, fr aRc w u → fR (orf (owF N Y T (rn N (pL Y) s)) (sig N Y 59 (owA N Y T (rn N (pL Y) s))).1) u → (orf (owF N Y T (rn N (pL Y) s)) (sig N Y 59 (owA N Y T (rn N (pL Y) s))).1 = none → tR N Y (sig N Y 59 (owA N Y T (rn N (pL Y) s))).2 u ∧ rD (owT N Y T (rn N (pL Y) s)) u) → s_Ex (d + 10) 0 mX12_coast 44 [some (.ref 79), none, some (.int (nI (cl + 1))), none, none, none] [] u Q X) : s_Ex (d + 10) 0 mX12_coast 242 [some (.ref 79), none, some (.int (nI cl)), some (.int x3), some (.int x4), some (.int (nI (wv6 N Y s)))] [] w Q X := by
  have hsN := hT.2.1
  apply xX12_coast_242
  unfold vX12_coast_242
  refine R_fine hf (fun _ => ⟨fun _ => ?_, fun z => absurd (by decide) z⟩) (fun z => absurd rfl z)
  have e3 := h3.n (wA_x hw (by decide +kernel))
  have e4 := h4.n (wA_x hw (by decide +kernel))
  subst e3 e4
  refine ⟨fun z => absurd rfl z, fun _ => ⟨fun _ => ?_, fun z => absurd rfl z⟩⟩
  refine R_pass (d := d + 7) (N - s) s w _ (by omega) hT hf (fun w1 f1 t1 ff1 => ?_)
  apply xX12_coast_288
  unfold vX12_coast_288
  refine ⟨fun _ => ⟨fun _ => ?_, fun z => absurd rfl z⟩, fun z => absurd rfl z⟩
  refine S_rdow (d := d) ht hsN hn1 hn6 hn7 hn8 hn10 t1 ff1 (hD.x f1) (fun u2 f2 ff2 c2 => ?_)
  exact R_317 ff2 c2 (fun u3 f3 ff3 c3 => h u3 (((aRc_x f1).trans f2).trans f3) ff3 c3)
