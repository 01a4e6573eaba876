/-! the text of a work: what is told, and how a step goes into it -/
def cg (r : Nat) (T : Tb) (kd fs sc : Nat → Nat) (n : Nat) (w : q_Sm) : Prop := (w.1 r 0 = nI (T 7 0) ∧ w.1 r 3 = nI (T 7 1)) ∧ w.1 52 3 = nI n ∧ pgC kd fs sc n w
def pg2 (kd fs sc : Nat → Nat) (n : Nat) (w : q_Sm) : Prop := ∀ i, i < n → w.1 102 (3 * i) = nI (kd i) ∧ w.1 102 (3 * i + 1) = nI (fs i) ∧ w.1 102 (3 * i + 2) = nI (sc3 kd sc i)
def rg (T : Tb) (kd fs sc : Nat → Nat) (n : Nat) (w : q_Sm) : Prop := (w.1 79 29 = nI (T 7 0) ∧ w.1 79 30 = nI (T 7 1)) ∧ w.1 79 44 = nI (3 * n) ∧ pg2 kd fs sc n w
def aWk (i j : Nat) : Bool := aTx i j || (i == 52 && j == 3) || i == 53 || i == 54 || i == 55
def aRk (i j : Nat) : Bool := aRx i j || (i == 79 && (j == 7 || j == 44)) || i == 102
theorem aWk_T {w u : q_Sm} (h : fr aTx w u) : fr aWk w u := h.mono (fun i j q => by simp [aWk, q])
theorem aRk_x {w u : q_Sm} (h : fr aRx w u) : fr aRk w u := h.mono (fun i j q => by simp [aRk, q])
theorem cg.g {r n : Nat} {T : Tb} {kd fs sc : Nat → Nat} {w u : q_Sm} (hr : r = 4 ∨ r = 20) (h : cg r T kd fs sc n w) (g : ∀ i j, 4 ≤ i → i ≤ 55 → u.1 i j = w.1 i j) : cg r T kd fs sc n u :=
  ⟨⟨(g _ _ (by omega) (by omega)).trans h.1.1, (g _ _ (by omega) (by omega)).trans h.1.2⟩, (g _ _ (by omega) (by omega)).trans h.2.1, h.2.2.eq (fun i j q => g i j (by omega) (by omega))⟩
theorem cg.T {r n : Nat} {T : Tb} {kd fs sc : Nat → Nat} {w u : q_Sm} (hr : r = 4 ∨ r = 20) (h : cg r T kd fs sc n w) (f : fr aTx w u) : cg r T kd fs sc n u := h.g hr (fun i j q _ => f.2 i j (aTx_l (by omega)))
theorem rg.g {n : Nat} {T : Tb} {kd fs sc : Nat → Nat} {w u : q_Sm} (h : rg T kd fs sc n w) (g : ∀ i j, (i = 79 ∧ (j = 29 ∨ j = 30 ∨ j = 44)) ∨ i = 102 → u.1 i j = w.1 i j) : rg T kd fs sc n u :=
  ⟨⟨(g _ _ (by omega)).trans h.1.1, (g _ _ (by omega)).trans h.1.2⟩, (g _ _ (by omega)).trans h.2.1, fun i hi => by
    rw [g 102 (3 * i) (by omega), g 102 (3 * i + 1) (by omega), g 102 (3 * i + 2) (by omega)]
    exact h.2.2 i hi⟩
theorem rg.x {n : Nat} {T : Tb} {kd fs sc : Nat → Nat} {w u : q_Sm} (h : rg T kd fs sc n w) (f : fr aRx w u) : rg T kd fs sc n u := h.g (fun i j q => f.2 i j (aRx_n (by omega)))
theorem K_add {d r n k x y : Nat} {T : Tb} {kd fs sc : Nat → Nat} {X : s_Xo} {w : q_Sm} {Q : q_Sm → Prop} (hr : r = 4 ∨ r = 20) (hn : n < 150) (hc : cg r T kd fs sc n w)
    (h : ∀ u, fr aWk w u → (∀ i j, i = 2 ∨ i = 3 → u.1 i j = w.1 i j) → cg r T (up kd n k) (up fs n x) (up sc n y) (n + 1) u → Q u) : s_EvV (d + 1) 0 mX9_add w [.ref 52, .int (nI k), .int (nI x), .int (nI y)] Q X := by
  apply eX9_add
  unfold vX9_add_0
  have h3 := hc.2.1
  rw [h3, L_150, nI_leI (by omega) (by omega), nI_clamp (show n < 2 ^ 31 by omega)]
  have v : vp_in (nI n) 150 := (vp_nI (by omega)).mpr hn
  refine ⟨fun z => absurd z (by omega), fun _ => ⟨v, ?_⟩⟩
  rintro _ rfl
  rw [rd_i (show 52 ≠ 53 by decide), h3, nI_clamp (show n < 2 ^ 31 by omega)]
  refine ⟨v, ?_⟩
  rintro _ rfl
  rw [rd_i (show 52 ≠ 54 by decide), rd_i (show 52 ≠ 53 by decide), h3, nI_clamp (show n < 2 ^ 31 by omega)]
  refine ⟨v, ?_⟩
  rintro _ rfl
  intro w4 e4
  rw [rd_i (show 52 ≠ 55 by decide), rd_i (show 52 ≠ 54 by decide), rd_i (show 52 ≠ 53 by decide), h3, nI_1 n] at e4
  rw [s_Vn]
  have g : ∀ i j, ¬ (i = 52 ∧ j = 3) → i ≠ 53 → i ≠ 54 → i ≠ 55 → w4.1 i j = w.1 i j := fun i j q1 q2 q3 q4 => by rw [e4, rd_ne q1, rd_i q4, rd_i q3, rd_i q2]
  refine h w4 (by rw [e4]; exact (((fr.wr rfl).put rfl).put rfl).put rfl) (fun i j q => g i j (by omega) (by omega) (by omega) (by omega)) ⟨⟨(g _ _ (by omega) (by omega) (by omega) (by omega)).trans hc.1.1, (g _ _ (by omega) (by omega) (by omega) (by omega)).trans hc.1.2⟩, by rw [e4, rd_s], fun i hi => ?_⟩
  by_cases q : i = n
  · rw [q, up_s, up_s, up_s]
    refine ⟨?_, ?_, ?_⟩
    · rw [e4, rd_i (by decide), rd_i (by decide), rd_i (by decide), rd_s]
    · rw [e4, rd_i (by decide), rd_i (by decide), rd_s]
    · rw [e4, rd_i (by decide), rd_s]
  · rw [up_n q, up_n q, up_n q]
    obtain ⟨p1, p2, p3⟩ := hc.2.2 i (by omega)
    refine ⟨?_, ?_, ?_⟩
    · rw [e4, rd_i (by decide), rd_i (by decide), rd_i (by decide), rd_j q]; exact p1
    · rw [e4, rd_i (by decide), rd_i (by decide), rd_j q, rd_i (by decide)]; exact p2
    · rw [e4, rd_i (by decide), rd_j q, rd_i (by decide), rd_i (by decide)]; exact p3
theorem sc3_n {kd sc : Nat → Nat} {n k y : Nat} (hk : k = 5 → y = 0) : sc3 (up kd n k) (up sc n y) n = y := by
  unfold sc3
  rw [up_s, up_s]
  split
  · rename_i q
    have := hk q
    omega
  · rfl
theorem sc3_o {kd sc : Nat → Nat} {n k y i : Nat} (q : i ≠ n) : sc3 (up kd n k) (up sc n y) i = sc3 kd sc i := by
  unfold sc3
  rw [up_n q, up_n q]
theorem R_tells {d n k x y : Nat} {F : Option (Nat × Nat)} {v1 v2 : Int32} {T : Tb} {kd fs sc : Nat → Nat} {X : s_Xo} {w : q_Sm} {Q : q_Sm → Prop} (hn : n < 50) (hk : k = 5 → y = 0) (hf : fR F w) (hc : rg T kd fs sc n w) (hv : F = none → v1 = nI x ∧ v2 = nI y)
    (h1 : F = none → ∀ u, fr aRk w u → (∀ i j, ¬ (i = 79 ∧ j = 44) → i ≠ 102 → u.1 i j = w.1 i j) → rg T (up kd n k) (up fs n x) (up sc n y) (n + 1) u → Q u) (h0 : F ≠ none → Q w) : s_EvV (d + 2) 0 mX12_tellsStep w [.ref 79, .int (nI k), .int v1, .int v2] Q X := by
  apply eX12_tellsStep
  unfold vX12_tellsStep_0
  refine R_fine hf (fun z => ⟨fun _ => ?_, fun q => absurd (by decide) q⟩) (fun z => ⟨fun q => absurd rfl q, fun _ => ?_⟩)
  · obtain ⟨e1, e2⟩ := hv z
    subst e1 e2
    have h44 := hc.2.1
    have a1 : nI (3 * n) + 1 = nI (3 * n + 1) := nI_1 _
    have a2 : nI (3 * n) + 2 = nI (3 * n + 2) := by rw [L_2, nI_add]
    have a3 : nI (3 * n) + 3 = nI (3 * (n + 1)) := by rw [L_3, nI_add, Nat.mul_succ]
    rw [h44, nI_clamp (show 3 * n < 2 ^ 31 by omega)]
    refine ⟨(vp_nI (by omega)).mpr (by omega), ?_⟩
    rintro _ rfl
    rw [rd_i (show 79 ≠ 102 by decide), h44, a1, nI_clamp (show 3 * n + 1 < 2 ^ 31 by omega)]
    refine ⟨(vp_nI (by omega)).mpr (by omega), ?_⟩
    rintro _ rfl
    rw [rd_i (show 79 ≠ 102 by decide), rd_i (show 79 ≠ 102 by decide), h44, a2, nI_clamp (show 3 * n + 2 < 2 ^ 31 by omega)]
    refine ⟨(vp_nI (by omega)).mpr (by omega), ?_⟩
    rintro _ rfl
    intro w6 e6
    rw [rd_i (show 79 ≠ 102 by decide), rd_i (show 79 ≠ 102 by decide), rd_i (show 79 ≠ 102 by decide), h44, a3] at e6
    rw [s_Vn]
    have g : ∀ i j, ¬ (i = 79 ∧ j = 44) → i ≠ 102 → w6.1 i j = w.1 i j := fun i j q1 q2 => by rw [e6, rd_ne q1, rd_i q2, rd_i q2, rd_i q2]
    refine h1 z w6 (by rw [e6]; exact (((fr.wr rfl).put rfl).put rfl).put rfl) g ⟨⟨(g _ _ (by omega) (by omega)).trans hc.1.1, (g _ _ (by omega) (by omega)).trans hc.1.2⟩, by rw [e6, rd_s], fun i hi => ?_⟩
    by_cases q : i = n
    · rw [q, up_s, up_s, sc3_n hk]
      refine ⟨?_, ?_, ?_⟩
      · rw [e6, rd_i (by decide), rd_j (by omega), rd_j (by omega), rd_s]
      · rw [e6, rd_i (by decide), rd_j (by omega), rd_s]
      · rw [e6, rd_i (by decide), rd_s]
    · rw [up_n q, up_n q, sc3_o q]
      obtain ⟨p1, p2, p3⟩ := hc.2.2 i (by omega)
      refine ⟨?_, ?_, ?_⟩
      · rw [e6, rd_i (by decide), rd_j (by omega), rd_j (by omega), rd_j (by omega)]; exact p1
      · rw [e6, rd_i (by decide), rd_j (by omega), rd_j (by omega), rd_j (by omega)]; exact p2
      · rw [e6, rd_i (by decide), rd_j (by omega), rd_j (by omega), rd_j (by omega)]; exact p3
  · rw [s_Vn]
    exact h0 z
/-- once a fault stands -/
def sbw (N : Nat) (Y : Nat → Nat) (y : Nat × Nat) (u : q_Sm) : Prop := fC (some y) u ∧ ∃ a, tC N Y a u
theorem sbw.g {N : Nat} {Y : Nat → Nat} {y : Nat × Nat} {w u : q_Sm} (h : sbw N Y y w) (g : ∀ i j, i = 2 ∨ i = 3 → u.1 i j = w.1 i j) : sbw N Y y u := by
  obtain ⟨h1, a, h2⟩ := h
  exact ⟨h1.g g, a, h2.g g⟩
theorem K_needF {d N c : Nat} {Y : Nat → Nat} {y : Nat × Nat} {X : s_Xo} {w : q_Sm} {Q : q_Sm → Prop} (hc : c < 256) (hb : sbw N Y y w) (h : ∀ u, fr aWk w u → sbw N Y y u → Q u) : s_EvV (d + 3) 0 mX10_need w [.ref 2, .int (nI c)] Q X := by
  obtain ⟨hf, a, hT⟩ := id hb
  exact K_need hc hT hf (fun u a' fu tu _ ffu => h u (aWk_T fu) ⟨ffu, a', tu⟩)
theorem K_44B {d N r c own : Nat} {x3 : Int32} {Y : Nat → Nat} {y : Nat × Nat} {X : s_Xo} {w : q_Sm} {Q : q_Sm → Prop} (hc : c < 150) (ho : own < 150) (hb : sbw N Y y w) (h : ∀ u, fr aWk w u → sbw N Y y u → Q u) : s_Ex (d + 2) 0 mX9_readAgain 44 [some (.ref 52), some (.ref 2), some (.ref r), some (.int x3), some (.int (nI own)), some (.int (nI c))] [] w (s_V Q) X := by
  apply xX9_readAgain_44
  unfold vX9_readAgain_44
  rw [L_150, nI_leI (show 150 < 2 ^ 31 by decide) (show c < 2 ^ 31 by omega), nI_leI (show 150 < 2 ^ 31 by decide) (show own < 2 ^ 31 by omega), nI_clamp (show own < 2 ^ 31 by omega)]
  refine ⟨fun z => absurd z (by omega), fun _ => K_failed hb.1 (fun _ => ⟨fun _ => ⟨fun z => absurd z (by omega), fun _ => ⟨(vp_nI (by omega)).mpr ho, ?_⟩⟩, fun z => absurd (by decide) z⟩) (fun z => by simp at z)⟩
  intro w1 e1
  rw [s_Vn]
  exact h w1 (by rw [e1]; exact fr.wr rfl) (hb.g (fun i j q => by rw [e1, rd_i (by omega)]))
theorem R_numB {d : Nat} {x1 x2 : Int32} {y : Nat × Nat} {X : s_Xo} {w : q_Sm} {Q : Int32 → q_Sm → Prop} (hf : fR (some y) w) (h : Q 0 w) : s_EvI (d + 2) 0 mX12_readNumber w [.ref 79, .int x1, .int x2] Q X := by
  apply eX12_readNumber
  unfold vX12_readNumber_0
  refine R_fine hf (fun z => by simp at z) (fun _ => ⟨fun z => absurd rfl z, fun _ => ?_⟩)
  rw [s_Ii]
  exact h
theorem R_tellsB {d : Nat} {x1 x2 x3 : Int32} {y : Nat × Nat} {X : s_Xo} {w : q_Sm} {Q : q_Sm → Prop} (hf : fR (some y) w) (h : Q w) : s_EvV (d + 2) 0 mX12_tellsStep w [.ref 79, .int x1, .int x2, .int x3] Q X := by
  apply eX12_tellsStep
  unfold vX12_tellsStep_0
  refine R_fine hf (fun z => by simp at z) (fun _ => ⟨fun q => absurd rfl q, fun _ => ?_⟩)
  rw [s_Vn]
  exact h
theorem R_227B {d : Nat} {x3 : Int32} {y : Nat × Nat} {X : s_Xo} {w : q_Sm} {Q : q_Sm → Prop} (hf : fR (some y) w) (h : ∀ u, fr aRk w u → fR (some y) u → Q u) : s_Ex (d + 3) 0 mX12_readStep 227 [some (.ref 79), none, none, some (.int x3)] [] w (s_V Q) X := by
  apply xX12_readStep_227
  unfold vX12_readStep_227
  refine R_fine hf (fun z => by simp at z) (fun _ => ⟨fun _ => R_signB (d := d) hf ?_, fun z => absurd rfl z⟩)
  intro w1 e1
  have f1 : fR (some y) w1 := hf.mv (by rw [e1, rd_j (by decide)]) (by rw [e1, rd_j (by decide)])
  refine R_fine f1 (fun z => by simp at z) (fun _ => ⟨fun _ => R_signB (d := d) f1 ?_, fun z => absurd rfl z⟩)
  rw [s_Vn]
  exact h w1 (by rw [e1]; exact fr.wr rfl) f1
theorem R_opW {d N a o n b : Nat} {Y : Nat → Nat} {T : Tb} {kd fs sc : Nat → Nat} {X : s_Xo} {w : q_Sm} {Q : q_Sm → Prop} (h6 : o < 6) (hb : a + b ≤ N) (hT : tR N Y a w) (hf : fR none w) (ho : w.1 79 7 = nI o) (hc : rg T kd fs sc n w) (h : ∀ u, fr aRk w u → tR N Y (a + b) u → fR none u → u.1 79 7 = nI (o + 1) → rg T kd fs sc n u → Q u) : s_EvV (d + 2) 0 mX12_opensOne w [.ref 79, .int (nI b)] Q X := by
  apply eX12_opensOne
  unfold vX12_opensOne_0
  refine R_fine hf (fun _ => ⟨fun z => absurd z (by decide), fun _ => ?_⟩) (fun z => absurd rfl z)
  rw [ho, L_6, nI_eq (by omega) (by omega)]
  refine ⟨fun _ => ?_, fun z => absurd (by omega) z⟩
  apply xX12_opensOne_25
  unfold vX12_opensOne_25
  refine R_fine hf (fun _ => ⟨fun z => absurd z (by decide), fun _ => ?_⟩) (fun z => absurd rfl z)
  rintro _ rfl
  apply xX12_opensOne_42
  unfold vX12_opensOne_42
  intro w8 e8
  rw [hT.2.2.2.1, nI_add, rd_j (show 7 ≠ 4 by decide), ho, nI_1 o] at e8
  rw [s_Vn]
  have g : ∀ i j, ¬ (i = 79 ∧ (j = 4 ∨ j = 7)) → w8.1 i j = w.1 i j := fun i j q => by rw [e8, rd_ne (by omega), rd_ne (by omega)]
  refine h w8 (by rw [e8]; exact (fr.wr rfl).put rfl) ⟨hT.1, hb, by rw [g _ _ (by omega)]; exact hT.2.2.1, by rw [e8, rd_j (by decide), rd_s], fun k hk => by rw [g _ _ (by omega)]; exact hT.2.2.2.2 k hk⟩ (hf.mv (g _ _ (by omega)) (g _ _ (by omega))) (by rw [e8, rd_s]) (hc.g (fun i j q => g i j (by omega)))
theorem R_opW6 {d N a b : Nat} {Y : Nat → Nat} {X : s_Xo} {w : q_Sm} {Q : q_Sm → Prop} (hT : tR N Y a w) (hf : fR none w) (ho : w.1 79 7 = nI 6) (h : ∀ u, fr aRk w u → fR (some (3, a)) u → Q u) : s_EvV (d + 2) 0 mX12_opensOne w [.ref 79, .int (nI b)] Q X := by
  apply eX12_opensOne
  unfold vX12_opensOne_0
  refine R_fine hf (fun _ => ⟨fun z => absurd z (by decide), fun _ => ?_⟩) (fun z => absurd rfl z)
  rw [ho]
  refine ⟨fun z => absurd rfl z, fun _ => ?_⟩
  rw [hT.2.2.2.1]
  refine R_wrong (k := 3) hf (by decide) (by decide) (by have := hT.1; have := hT.2.1; omega) (fun u f1 g1 ff1 => ?_)
  apply xX12_opensOne_25
  unfold vX12_opensOne_25
  refine R_fine ff1 (fun z => by simp [orf] at z) (fun _ => ⟨fun _ => ?_, fun z => absurd rfl z⟩)
  apply xX12_opensOne_42
  unfold vX12_opensOne_42
  intro w8 e8
  rw [s_Vn]
  exact h w8 (by rw [e8]; exact (aRk_x f1).put rfl) (ff1.mv (by rw [e8, rd_j (by decide)]) (by rw [e8, rd_j (by decide)]))
theorem col_pl {N a : Nat} {Y : Nat → Nat} (ha : a ≤ N) : a ≤ (col N Y a).2.2 ∧ (col N Y a).2.2 ≤ N := by
  have h1 := sk_ge (Y := Y) ha
  have h2 := sk_le (Y := Y) ha
  have h3 := rn_b (N := N) (p := pL Y) h2
  have e : (col N Y a).2.2 = rn N (pL Y) (sk N Y a) := by
    unfold col
    split <;> rfl
  rw [e]
  omega
/-- steps that were added -/
def gwk (T : Tb) (N e a n : Nat) (kd fs sc : Nat → Nat) (a' n' : Nat) (kd' fs' sc' : Nat → Nat) : Prop := (a + e ≤ a' ∧ a' ≤ N) ∧ (n ≤ n' ∧ 5 * n' ≤ a') ∧ (∀ i, i < n → kd' i = kd i ∧ fs' i = fs i ∧ sc' i = sc i) ∧
  ∀ i, n ≤ i → i < n' → stO T (kd' i) (fs' i) (sc' i) ∨ (kd' i = 5 ∧ fs' i ≤ 20 ∧ i + 1 ≤ sc' i ∧ sc' i ≤ n')
theorem gwk.tr {T : Tb} {N e1 e2 a n a1 n1 a2 n2 : Nat} {kd fs sc kd1 fs1 sc1 kd2 fs2 sc2 : Nat → Nat} (h : gwk T N e1 a n kd fs sc a1 n1 kd1 fs1 sc1) (k : gwk T N e2 a1 n1 kd1 fs1 sc1 a2 n2 kd2 fs2 sc2) : gwk T N 0 a n kd fs sc a2 n2 kd2 fs2 sc2 := by
  obtain ⟨⟨p1, p2⟩, ⟨p3, p4⟩, p5, p6⟩ := h
  obtain ⟨⟨q1, q2⟩, ⟨q3, q4⟩, q5, q6⟩ := k
  refine ⟨⟨by omega, q2⟩, ⟨by omega, q4⟩, fun i hi => ?_, fun i h1 h2 => ?_⟩
  · obtain ⟨x1, x2, x3⟩ := p5 i hi
    obtain ⟨y1, y2, y3⟩ := q5 i (by omega)
    exact ⟨y1.trans x1, y2.trans x2, y3.trans x3⟩
  · by_cases q : i < n1
    · obtain ⟨y1, y2, y3⟩ := q5 i q
      rw [y1, y2, y3]
      rcases p6 i h1 q with z | z
      · exact Or.inl z
      · exact Or.inr ⟨z.1, z.2.1, z.2.2.1, by omega⟩
    · exact q6 i (by omega) h2
def DT (o : Nat) : Nat := 30 - 2 * o
def outT (r : Nat) (T : Tb) (N : Nat) (Y : Nat → Nat) (o a n : Nat) (kd fs sc : Nat → Nat) : Prop :=
  (∃ y, (∀ D X, DT o ≤ D → ∀ (w : q_Sm) (Q : q_Sm → Prop), tC N Y a w → fC none w → cg r T kd fs sc n w → (∀ u, fr aWk w u → sbw N Y y u → Q u) → s_EvV D 0 mX9_readStep w [.ref 52, .ref 2, .ref r, .int (nI o)] (fun u5 => s_EvV D 0 mX10_need u5 [.ref 2, .int (nI 59)] Q X) X) ∧
    (∀ D X, DT o ≤ D → ∀ (w : q_Sm) (Q : q_Sm → Prop), tR N Y a w → fR none w → w.1 79 7 = nI o → rg T kd fs sc n w → (∀ u, fr aRk w u → fR (some y) u → Q u) → s_EvV D 0 mX12_readStep w [.ref 79] Q X)) ∨
  (∃ a' n' kd' fs' sc', gwk T N 5 a n kd fs sc a' n' kd' fs' sc' ∧
    (∀ D X, DT o ≤ D → ∀ (w : q_Sm) (Q : q_Sm → Prop), tC N Y a w → fC none w → cg r T kd fs sc n w → (∀ u, fr aWk w u → tC N Y a' u → fC none u → cg r T kd' fs' sc' n' u → Q u) → s_EvV D 0 mX9_readStep w [.ref 52, .ref 2, .ref r, .int (nI o)] (fun u5 => s_EvV D 0 mX10_need u5 [.ref 2, .int (nI 59)] Q X) X) ∧
    (∀ D X, DT o ≤ D → ∀ (w : q_Sm) (Q : q_Sm → Prop), tR N Y a w → fR none w → w.1 79 7 = nI o → rg T kd fs sc n w → (∀ u, fr aRk w u → tR N Y a' u → fR none u → u.1 79 7 = nI o → rg T kd' fs' sc' n' u → Q u) → s_EvV D 0 mX12_readStep w [.ref 79] Q X))
theorem leaf_of {r N o a n k x y A1 : Nat} {T : Tb} {Y kd fs sc : Nat → Nat} {F1 : Option (Nat × Nat)} (hr : r = 4 ∨ r = 20) (hN : N ≤ 150) (ho : o ≤ 6) (ha : a ≤ N) (h5 : 5 * n ≤ a) (hk : k = 5 → y = 0) (hA : F1 = none → a + 4 ≤ A1 ∧ A1 ≤ N ∧ stO T k x y)
    (kin : ∀ d X (w : q_Sm) (Q : q_Sm → Prop), tC N Y a w → fC none w → cg r T kd fs sc n w → (∀ u, fr aTx w u → tC N Y A1 u → fC F1 u → s_EvV (d + 12) 0 mX9_add u [.ref 52, .int (nI k), .int (nI x), .int (nI y)] (fun u => s_V Q none u) X) → s_EvV (d + 13) 0 mX9_readStep w [.ref 52, .ref 2, .ref r, .int (nI o)] Q X)
    (ein : ∀ d X (w : q_Sm) (Q : q_Sm → Prop), tR N Y a w → fR none w → rg T kd fs sc n w → (∀ u v1 v2, fr aRx w u → tRf N Y F1 A1 u → fR F1 u → (F1 = none → v1 = nI x ∧ v2 = nI y) → s_EvV (d + 12) 0 mX12_tellsStep u [.ref 79, .int (nI k), .int v1, .int v2] (fun u => s_EvV (d + 12) 0 mX12_sign u [.ref 79, .int (nI 59)] (fun u => s_V Q none u) X) X) → s_EvV (d + 13) 0 mX12_readStep w [.ref 79] Q X) : outT r T N Y o a n kd fs sc := by
  have hD : ∀ D, DT o ≤ D → ∃ d, D = d + 13 := fun D h => ⟨D - 13, by unfold DT at h; omega⟩
  cases hF : orf F1 (sig N Y 59 A1).1 with
  | some e =>
    refine Or.inl ⟨e, fun D X hd w Q hT hf hc h => ?_, fun D X hd w Q hT hf h7 hc h => ?_⟩
    · obtain ⟨d, rfl⟩ := hD D hd
      refine kin d X w _ hT hf hc (fun u fu tu ffu => K_add (d := d + 11) hr (by omega) (hc.T hr fu) (fun u2 f2 g2 c2 => ?_))
      rw [s_Vn]
      refine K_need (d := d + 10) (c := 59) (by decide) (tu.g g2) (ffu.g g2) (fun u3 a3 f3 t3 _ ff3 => ?_)
      rw [hF] at ff3
      exact h u3 (((aWk_T fu).trans f2).trans (aWk_T f3)) ⟨ff3, a3, t3⟩
    · obtain ⟨d, rfl⟩ := hD D hd
      refine ein d X w Q hT hf hc (fun u v1 v2 fu tu ffu hv => ?_)
      refine R_tells (d := d + 10) (x := x) (y := y) (by omega) hk ffu (hc.x fu) hv (fun z u2 f2 g2 c2 => ?_) (fun z => ?_)
      · refine S_sign (d := d + 10) (c := 59) (by decide) (by decide) (tu.g (fun i j q => g2 i j (by omega) (by omega))) (ffu.mv (g2 _ _ (by omega) (by omega)) (g2 _ _ (by omega) (by omega))) (fun u3 f3 t3 ff3 => ?_)
        rw [hF] at ff3
        rw [s_Vn]
        exact h u3 (((aRk_x fu).trans f2).trans (aRk_x f3)) ff3
      · refine S_sign (d := d + 10) (c := 59) (by decide) (by decide) tu ffu (fun u3 f3 t3 ff3 => ?_)
        rw [hF] at ff3
        rw [s_Vn]
        exact h u3 ((aRk_x fu).trans (aRk_x f3)) ff3
  | none =>
    obtain ⟨z1, z2⟩ := orf_nn.mp hF
    obtain ⟨k1, k2, k3⟩ := hA z1
    obtain ⟨p1, p2⟩ := sig_ok k2 z2
    refine Or.inr ⟨(sig N Y 59 A1).2, n + 1, up kd n k, up fs n x, up sc n y, ⟨⟨by omega, p2⟩, ⟨by omega, by omega⟩, fun i hi => ⟨up_n (by omega), up_n (by omega), up_n (by omega)⟩, fun i h1 h2 => ?_⟩, fun D X hd w Q hT hf hc h => ?_, fun D X hd w Q hT hf h7 hc h => ?_⟩
    · obtain rfl : i = n := by omega
      rw [up_s, up_s, up_s]
      exact Or.inl k3
    · obtain ⟨d, rfl⟩ := hD D hd
      refine kin d X w _ hT hf hc (fun u fu tu ffu => K_add (d := d + 11) hr (by omega) (hc.T hr fu) (fun u2 f2 g2 c2 => ?_))
      rw [s_Vn]
      refine K_need (d := d + 10) (c := 59) (by decide) (tu.g g2) (ffu.g g2) (fun u3 a3 f3 t3 ha3 ff3 => ?_)
      rw [hF] at ff3
      have ha3 := ha3 z1
      subst ha3
      exact h u3 (((aWk_T fu).trans f2).trans (aWk_T f3)) t3 ff3 (c2.T hr f3)
    · obtain ⟨d, rfl⟩ := hD D hd
      refine ein d X w Q hT hf hc (fun u v1 v2 fu tu ffu hv => ?_)
      refine R_tells (d := d + 10) (x := x) (y := y) (by omega) hk ffu (hc.x fu) hv (fun z u2 f2 g2 c2 => ?_) (fun z => absurd z1 z)
      refine S_sign (d := d + 10) (c := 59) (by decide) (by decide) (tu.g (fun i j q => g2 i j (by omega) (by omega))) (ffu.mv (g2 _ _ (by omega) (by omega)) (g2 _ _ (by omega) (by omega))) (fun u3 f3 t3 ff3 => ?_)
      rw [hF] at ff3 t3
      rw [s_Vn]
      refine h u3 (((aRk_x fu).trans f2).trans (aRk_x f3)) t3.no ff3 ?_ (c2.x f3)
      rw [f3.2 79 7 (aRx_n (by omega)), g2 79 7 (by omega) (by omega), fu.2 79 7 (aRx_n (by omega))]
      exact h7
