/-! a program runs, on both sides -/
def pgO (T : Tb) (kd fs sc : Nat → Nat) (n : Nat) : Prop := n ≤ 50 ∧ ∀ i, i < n → stO T (kd i) (fs i) (sc i) ∨ (kd i = 5 ∧ fs i ≤ 20 ∧ i + 1 ≤ sc i ∧ sc i ≤ n)
def pgC (kd fs sc : Nat → Nat) (n : Nat) (w : q_Sm) : Prop := ∀ i, i < n → w.1 53 i = nI (kd i) ∧ w.1 54 i = nI (fs i) ∧ w.1 55 i = nI (sc i)
def sc3 (kd sc : Nat → Nat) (i : Nat) : Nat := if kd i = 5 then 3 * sc i else sc i
def pgR (kd fs sc : Nat → Nat) (n : Nat) (w : q_Sm) : Prop := ∀ i, i < n → w.1 103 (3 * i) = nI (kd i) ∧ w.1 103 (3 * i + 1) = nI (fs i) ∧ w.1 103 (3 * i + 2) = nI (sc3 kd sc i)
theorem pgC.eq {kd fs sc : Nat → Nat} {n : Nat} {w u : q_Sm} (h : pgC kd fs sc n w) (k : ∀ i j, i = 53 ∨ i = 54 ∨ i = 55 → u.1 i j = w.1 i j) : pgC kd fs sc n u := fun i hi => by
  rw [k 53 i (by omega), k 54 i (by omega), k 55 i (by omega)]
  exact h i hi
theorem pgR.eq {kd fs sc : Nat → Nat} {n : Nat} {w u : q_Sm} (h : pgR kd fs sc n w) (k : ∀ j, u.1 103 j = w.1 103 j) : pgR kd fs sc n u := fun i hi => by
  rw [k, k, k]
  exact h i hi
def rnC (o l : Nat) (T : Tb) (β C : Nat → Nat) (nn : Nat) (kd fs sc : Nat → Nat) (n : Nat) (S : Nat → Nat) (b y z : Nat) (w : q_Sm) : Prop := KE o l T β C nn w ∧ cR 57 S w ∧ pgC kd fs sc n w ∧ w.1 52 4 = nI b ∧ w.1 52 5 = nI y ∧ w.1 52 6 = nI z
def rnR (T : Tb) (C : Nat → Nat) (nn : Nat) (kd fs sc : Nat → Nat) (n : Nat) (S : Nat → Nat) (b y z : Nat) (w : q_Sm) : Prop := RE T C nn w ∧ rR 105 S w ∧ pgR kd fs sc n w ∧ w.1 79 47 = nI b ∧ w.1 79 48 = nI y ∧ w.1 79 49 = nI z
def aRu (i j : Nat) : Bool := aR 56 i j || (i == 52 && (j == 4 || j == 5 || j == 6))
def aGo (i j : Nat) : Bool := aS i j || (i == 79 && (j == 47 || j == 48 || j == 49))
theorem aRu_R {w u : q_Sm} (h : fr (aR 56) w u) : fr aRu w u := h.mono (fun i j q => by simp [aRu, q])
theorem aGo_S {w u : q_Sm} (h : fr aS w u) : fr aGo w u := h.mono (fun i j q => by simp [aGo, q])
theorem aR_52 {i j : Nat} (h : 52 ≤ i ∧ i ≤ 55) : aR 56 i j = false := by
  simp [aR, aL]
  omega
theorem aS_n {i j : Nat} (h : i ≠ 100 ∧ i ≠ 101 ∧ i ≠ 105) : aS i j = false := by
  simp [aS]
  omega
theorem rnC.st {o l nn n b y z : Nat} {T : Tb} {β C kd fs sc S S' : Nat → Nat} {w u : q_Sm} (h : rnC o l T β C nn kd fs sc n S b y z w) (f : fr (aR 56) w u) (r : cR 57 S' u) : rnC o l T β C nn kd fs sc n S' b y z u := by
  obtain ⟨h1, h2, h3, h4, h5, h6⟩ := h
  refine ⟨h1.eq (fun i j q => f.2 i j (aR_lo (Or.inl rfl) i j q)), r, h3.eq (fun i j q => f.2 i j (aR_52 (by omega))), ?_, ?_, ?_⟩
  · rw [f.2 52 4 (aR_52 (by omega))]; exact h4
  · rw [f.2 52 5 (aR_52 (by omega))]; exact h5
  · rw [f.2 52 6 (aR_52 (by omega))]; exact h6
theorem rnR.st {nn n b y z : Nat} {T : Tb} {C kd fs sc S S' : Nat → Nat} {w u : q_Sm} (h : rnR T C nn kd fs sc n S b y z w) (f : fr aS w u) (r : rR 105 S' u) : rnR T C nn kd fs sc n S' b y z u := by
  obtain ⟨h1, h2, h3, h4, h5, h6⟩ := h
  refine ⟨h1.eq (fun i j q => f.2 i j (aS_n (by omega))), r, h3.eq (fun j => f.2 _ j (aS_n (by omega))), ?_, ?_, ?_⟩
  · rw [f.2 79 47 (aS_n (by omega))]; exact h4
  · rw [f.2 79 48 (aS_n (by omega))]; exact h5
  · rw [f.2 79 49 (aS_n (by omega))]; exact h6
theorem rnC.mk {o l nn n b y z b' y' z' : Nat} {T : Tb} {β C kd fs sc S : Nat → Nat} {w u : q_Sm} (h : rnC o l T β C nn kd fs sc n S b y z w) (k : ∀ i j, i ≠ 52 → u.1 i j = w.1 i j) (h4 : u.1 52 4 = nI b') (h5 : u.1 52 5 = nI y') (h6 : u.1 52 6 = nI z') : rnC o l T β C nn kd fs sc n S b' y' z' u :=
  ⟨h.1.eq (fun i j q => k i j (by omega)), h.2.1.eq (fun j => k _ j (by omega)), h.2.2.1.eq (fun i j q => k i j (by omega)), h4, h5, h6⟩
theorem rnR.mk {nn n b y z b' y' z' : Nat} {T : Tb} {C kd fs sc S : Nat → Nat} {w u : q_Sm} (h : rnR T C nn kd fs sc n S b y z w) (k : ∀ i j, ¬ (i = 79 ∧ 47 ≤ j ∧ j ≤ 49) → u.1 i j = w.1 i j) (h4 : u.1 79 47 = nI b') (h5 : u.1 79 48 = nI y') (h6 : u.1 79 49 = nI z') : rnR T C nn kd fs sc n S b' y' z' u :=
  ⟨h.1.eq (fun i j q => k i j (by omega)), h.2.1.eq (fun j => k _ j (by omega)), h.2.2.1.eq (fun j => k _ j (by omega)), h4, h5, h6⟩
theorem rnC.w4 {o l nn n b y z b' : Nat} {T : Tb} {β C kd fs sc S : Nat → Nat} {w : q_Sm} (h : rnC o l T β C nn kd fs sc n S b y z w) : rnC o l T β C nn kd fs sc n S b' y z (q_wI w 52 4 (nI b')) :=
  h.mk (fun i j q => rd_i q) rd_s ((rd_j (by decide)).trans h.2.2.2.2.1) ((rd_j (by decide)).trans h.2.2.2.2.2)
theorem rnC.w5 {o l nn n b y z y' : Nat} {T : Tb} {β C kd fs sc S : Nat → Nat} {w : q_Sm} (h : rnC o l T β C nn kd fs sc n S b y z w) : rnC o l T β C nn kd fs sc n S b y' z (q_wI w 52 5 (nI y')) :=
  h.mk (fun i j q => rd_i q) ((rd_j (by decide)).trans h.2.2.2.1) rd_s ((rd_j (by decide)).trans h.2.2.2.2.2)
theorem rnC.w6 {o l nn n b y z z' : Nat} {T : Tb} {β C kd fs sc S : Nat → Nat} {w : q_Sm} (h : rnC o l T β C nn kd fs sc n S b y z w) : rnC o l T β C nn kd fs sc n S b y z' (q_wI w 52 6 (nI z')) :=
  h.mk (fun i j q => rd_i q) ((rd_j (by decide)).trans h.2.2.2.1) ((rd_j (by decide)).trans h.2.2.2.2.1) rd_s
theorem rnR.w4 {nn n b y z b' : Nat} {T : Tb} {C kd fs sc S : Nat → Nat} {w : q_Sm} (h : rnR T C nn kd fs sc n S b y z w) : rnR T C nn kd fs sc n S b' y z (q_wI w 79 47 (nI b')) :=
  h.mk (fun i j q => rd_ne (by omega)) rd_s ((rd_j (by decide)).trans h.2.2.2.2.1) ((rd_j (by decide)).trans h.2.2.2.2.2)
theorem rnR.w5 {nn n b y z y' : Nat} {T : Tb} {C kd fs sc S : Nat → Nat} {w : q_Sm} (h : rnR T C nn kd fs sc n S b y z w) : rnR T C nn kd fs sc n S b y' z (q_wI w 79 48 (nI y')) :=
  h.mk (fun i j q => rd_ne (by omega)) ((rd_j (by decide)).trans h.2.2.2.1) rd_s ((rd_j (by decide)).trans h.2.2.2.2.2)
theorem rnR.w6 {nn n b y z z' : Nat} {T : Tb} {C kd fs sc S : Nat → Nat} {w : q_Sm} (h : rnR T C nn kd fs sc n S b y z w) : rnR T C nn kd fs sc n S b y z' (q_wI w 79 49 (nI z')) :=
  h.mk (fun i j q => rd_ne (by omega)) ((rd_j (by decide)).trans h.2.2.2.1) ((rd_j (by decide)).trans h.2.2.2.2.1) rd_s
/-- class and reference come to the same -/
def rkC (D : Nat) (T : Tb) (C : Nat → Nat) (nn : Nat) (kd fs sc : Nat → Nat) (n : Nat) (S : Nat → Nat) (b y z : Nat) (S' : Nat → Nat) (b' y' z' : Nat) (E : Nat → Nat → q_Sm → s_Po → s_Xo → Prop) : Prop :=
  ∀ o l β (w : q_Sm) (Q : q_Sm → Prop) X, rnC o l T β C nn kd fs sc n S b y z w → (∀ u, fr aRu w u → rnC o l T β C nn kd fs sc n S' b' y' z' u → Q u) → E o l w (s_V Q) X
def rkR (D : Nat) (T : Tb) (C : Nat → Nat) (nn : Nat) (kd fs sc : Nat → Nat) (n : Nat) (S : Nat → Nat) (b y z : Nat) (S' : Nat → Nat) (b' y' z' : Nat) (E : q_Sm → s_Po → s_Xo → Prop) : Prop :=
  ∀ (w : q_Sm) (Q : q_Sm → Prop) X, rnR T C nn kd fs sc n S b y z w → (∀ u, fr aGo w u → rnR T C nn kd fs sc n S' b' y' z' u → Q u) → E w (s_V Q) X
theorem run_stop {T : Tb} {C : Nat → Nat} {nn n b y z i t : Nat} {kd fs sc S : Nat → Nat} (hn : n ≤ 50) (hi : i ≤ n) (ht : t ≤ n) (hb : b ≤ 200) (h : t ≤ i ∨ 200 ≤ b) :
    (∀ d, rkC (d + 1) T C nn kd fs sc n S b y z S b y z (fun o l w Q X => s_Ex (d + 1) 0 mX9_runSteps 3 [some (.ref 52), none, some (.int (nI t)), some (.ref 56), some (.ref o), some (.ref l), some (.int (nI i)), none] [] w Q X)) ∧
    (∀ d, rkR (d + 1) T C nn kd fs sc n S b y z S b y z (fun w Q X => s_Ex (d + 1) 0 mX12_goesSteps 2 [some (.ref 79), none, some (.int (nI (3 * t))), some (.int (nI (3 * i))), none, none] [] w Q X)) := by
  refine ⟨fun d o l β w Q X hw k => ?_, fun d w Q X hw k => ?_⟩
  · apply xX9_runSteps_3
    unfold vX9_runSteps_3
    have hk : s_V Q none w := by rw [s_Vn]; exact k w (fr.refl _ _) hw
    rw [hw.2.2.2.1, L_150, L_200, nI_leI (by omega) (by omega), nI_leI (by omega) (by omega), nI_leI (by omega) (by omega)]
    exact ⟨fun _ => hk, fun q1 => ⟨fun _ => hk, fun _ => ⟨fun _ => hk, fun q3 => absurd h (by omega)⟩⟩⟩
  · apply xX12_goesSteps_2
    unfold vX12_goesSteps_2
    have hk : s_V Q none w := by rw [s_Vn]; exact k w (fr.refl _ _) hw
    rw [hw.2.2.2.1, L_200, nI_leI (by omega) (by omega), nI_leI (by omega) (by omega)]
    exact ⟨fun _ => hk, fun q1 => ⟨fun _ => hk, fun q3 => absurd h (by omega)⟩⟩
theorem run_out {T : Tb} {C : Nat → Nat} {nn n : Nat} {kd fs sc : Nat → Nat} (hT : tb T) (hP : pgO T kd fs sc n) : ∀ g S b y z i t, okr T S → 200 - b ≤ g → b ≤ 200 → i ≤ n → t ≤ n → ∃ (b' y' z' : Nat) (S' : Nat → Nat), b ≤ b' ∧ b' ≤ 200 ∧ okr T S' ∧
    (∀ D, g + 10 ≤ D → rkC D T C nn kd fs sc n S b y z S' b' y' z' (fun o l w Q X => s_Ex D 0 mX9_runSteps 3 [some (.ref 52), none, some (.int (nI t)), some (.ref 56), some (.ref o), some (.ref l), some (.int (nI i)), none] [] w Q X)) ∧
    (∀ D, g + 10 ≤ D → rkR D T C nn kd fs sc n S b y z S' b' y' z' (fun w Q X => s_Ex D 0 mX12_goesSteps 2 [some (.ref 79), none, some (.int (nI (3 * t))), some (.int (nI (3 * i))), none, none] [] w Q X)) := by
  have hn := hP.1
  intro g
  induction g with
  | zero =>
    intro S b y z i t hS hg hb hi ht
    obtain ⟨k1, k2⟩ := run_stop (T := T) (C := C) (nn := nn) (kd := kd) (fs := fs) (sc := sc) (S := S) (y := y) (z := z) hn hi ht hb (by omega)
    refine ⟨b, y, z, S, by omega, hb, hS, fun D hD => ?_, fun D hD => ?_⟩
    · obtain ⟨d, rfl⟩ : ∃ d, D = d + 1 := ⟨D - 1, by omega⟩
      exact k1 d
    · obtain ⟨d, rfl⟩ : ∃ d, D = d + 1 := ⟨D - 1, by omega⟩
      exact k2 d
  | succ g ih =>
    intro S b y z i t hS hg hb hi ht
    by_cases hst : t ≤ i ∨ 200 ≤ b
    · obtain ⟨k1, k2⟩ := run_stop (T := T) (C := C) (nn := nn) (kd := kd) (fs := fs) (sc := sc) (S := S) (y := y) (z := z) hn hi ht hb hst
      refine ⟨b, y, z, S, by omega, hb, hS, fun D hD => ?_, fun D hD => ?_⟩
      · obtain ⟨d, rfl⟩ : ∃ d, D = d + 1 := ⟨D - 1, by omega⟩
        exact k1 d
      · obtain ⟨d, rfl⟩ : ∃ d, D = d + 1 := ⟨D - 1, by omega⟩
        exact k2 d
    have hin : i < n := by omega
    have a1 : nI (3 * i) + 1 = nI (3 * i + 1) := nI_1 _
    have a2 : nI (3 * i) + 2 = nI (3 * i + 2) := by rw [L_2, nI_add]
    have a3 : nI (3 * i) + 3 = nI (3 * (i + 1)) := by rw [L_3, nI_add, Nat.mul_succ]
    rcases hP.2 i hin with hk | ⟨hk, hf, hs1, hs2⟩
    · have hk5 : kd i ≠ 5 := by unfold stO at hk; omega
      have hk5' : kd i < 5 := by unfold stO at hk; omega
      have e3 : sc3 kd sc i = sc i := by unfold sc3; rw [if_neg hk5]
      obtain ⟨v, S1, hv, hS1, kst, rst⟩ := step_out (C := C) (n := nn) hT hS hk
      obtain ⟨b', y', z', S', hb1, hb2, hS', kc, rc⟩ := ih S1 (b + 1) (y + v) (z + 1 - v) (i + 1) t hS1 (by omega) (by omega) (by omega) ht
      refine ⟨b', y', z', S', by omega, hb2, hS', fun D hD => ?_, fun D hD => ?_⟩
      · obtain ⟨d, rfl⟩ : ∃ d, D = d + 6 + 1 := ⟨D - 7, by omega⟩
        intro o l β w Q X hw k
        apply xX9_runSteps_3
        unfold vX9_runSteps_3
        rw [hw.2.2.2.1, nI_1 b, nI_1 i, L_150, L_200, nI_leI (by omega) (by omega), nI_leI (by omega) (by omega), nI_leI (by omega) (by omega), nI_clamp (show i < 2 ^ 31 by omega)]
        refine ⟨fun q => absurd q (by omega), fun _ => ⟨fun q => absurd q (by omega), fun _ => ⟨fun q => absurd q (by omega), fun _ => ?_⟩⟩⟩
        intro w1 e1
        have hw1 : rnC o l T β C nn kd fs sc n S (b + 1) y z w1 := by rw [e1]; exact hw.w4
        have f1 : fr aRu w w1 := by rw [e1]; exact fr.wr rfl
        obtain ⟨p1, p2, p3⟩ := hw1.2.2.1 i hin
        rw [p1, L_5, nI_eq (by omega) (by omega)]
        refine ⟨(vp_nI (by omega)).mpr (by omega), fun _ => kst d o l β i w1 _ X hw1.1 hw1.2.1 (by omega) p1 p2 p3 (fun u fu ru => ?_), fun q => absurd hk5 q⟩
        have hu := hw1.st fu ru
        rw [L_0, nI_eq (by omega) (by omega)]
        refine ⟨fun q => ?_, fun q => ?_⟩
        · intro w4 e4
          rw [hu.2.2.2.2.2, nI_1 z] at e4
          subst q
          refine kc (d + 6 + 1) (by omega) o l β w4 Q X (by rw [e4]; exact hu.w6) (fun u2 f2 h2 => k u2 ?_ h2)
          refine (f1.trans (aRu_R fu)).trans (fr.trans ?_ f2)
          rw [e4]
          exact fr.wr rfl
        · intro w4 e4
          rw [hu.2.2.2.2.1, nI_1 y] at e4
          obtain rfl : v = 1 := by omega
          refine kc (d + 6 + 1) (by omega) o l β w4 Q X (by rw [e4]; exact hu.w5) (fun u2 f2 h2 => k u2 ?_ h2)
          refine (f1.trans (aRu_R fu)).trans (fr.trans ?_ f2)
          rw [e4]
          exact fr.wr rfl
      · obtain ⟨d, rfl⟩ : ∃ d, D = d + 8 + 1 := ⟨D - 9, by omega⟩
        intro w Q X hw k
        apply xX12_goesSteps_2
        unfold vX12_goesSteps_2
        rw [hw.2.2.2.1, nI_1 b, a1, a2, a3, L_200, nI_leI (by omega) (by omega), nI_leI (by omega) (by omega), nI_clamp (show 3 * i < 2 ^ 31 by omega), nI_clamp (show 3 * i + 1 < 2 ^ 31 by omega), nI_clamp (show 3 * i + 2 < 2 ^ 31 by omega)]
        refine ⟨fun q => absurd q (by omega), fun _ => ⟨fun q => absurd q (by omega), fun _ => ?_⟩⟩
        intro w1 e1
        have hw1 : rnR T C nn kd fs sc n S (b + 1) y z w1 := by rw [e1]; exact hw.w4
        have f1 : fr aGo w w1 := by rw [e1]; exact fr.wr rfl
        obtain ⟨p1, p2, p3⟩ := hw1.2.2.1 i hin
        rw [p1, p2, p3, e3, L_5, nI_eq (by omega) (by omega)]
        refine ⟨(vp_nI (by omega)).mpr (by omega), fun _ => ⟨(vp_nI (by omega)).mpr (by omega), (vp_nI (by omega)).mpr (by omega), (vp_nI (by omega)).mpr (by omega), rst d w1 _ X hw1.1 hw1.2.1 (fun u fu ru => ?_)⟩, fun q => absurd hk5 q⟩
        have hu := hw1.st fu ru
        rw [L_0, nI_eq (by omega) (by omega)]
        refine ⟨fun q => ?_, fun q => ?_⟩
        · intro w4 e4
          rw [hu.2.2.2.2.2, nI_1 z] at e4
          subst q
          refine rc (d + 8 + 1) (by omega) w4 Q X (by rw [e4]; exact hu.w6) (fun u2 f2 h2 => k u2 ?_ h2)
          refine (f1.trans (aGo_S fu)).trans (fr.trans ?_ f2)
          rw [e4]
          exact fr.wr rfl
        · intro w4 e4
          rw [hu.2.2.2.2.1, nI_1 y] at e4
          obtain rfl : v = 1 := by omega
          refine rc (d + 8 + 1) (by omega) w4 Q X (by rw [e4]; exact hu.w5) (fun u2 f2 h2 => k u2 ?_ h2)
          refine (f1.trans (aGo_S fu)).trans (fr.trans ?_ f2)
          rw [e4]
          exact fr.wr rfl
    · have e3 : sc3 kd sc i = 3 * sc i := by unfold sc3; rw [if_pos hk]
      have inner : ∀ m S b1 y z x, fs i - x ≤ m → x ≤ fs i → b + 1 ≤ b1 → b1 ≤ 200 → okr T S → ∃ (b' y' z' : Nat) (S' : Nat → Nat), b1 ≤ b' ∧ b' ≤ 200 ∧ okr T S' ∧
          (∀ D, g + 11 ≤ D → rkC D T C nn kd fs sc n S b1 y z S' b' y' z' (fun o l w Q X => s_Ex D 0 mX9_runSteps 51 [some (.ref 52), none, some (.int (nI t)), some (.ref 56), some (.ref o), some (.ref l), some (.int (nI i)), some (.int (nI x))] [] w Q X)) ∧
          (∀ D, g + 11 ≤ D → rkR D T C nn kd fs sc n S b1 y z S' b' y' z' (fun w Q X => s_Ex D 0 mX12_goesSteps 50 [some (.ref 79), none, some (.int (nI (3 * t))), some (.int (nI (3 * i))), some (.int (nI (3 * sc i))), some (.int (nI x))] [] w Q X)) := by
        intro m
        induction m with
        | zero =>
          intro S b1 y z x hm hx hb1 hb2 hS
          obtain ⟨b', y', z', S', h1, h2, hS', kc, rc⟩ := ih S b1 y z (sc i) t hS (by omega) hb2 hs2 ht
          refine ⟨b', y', z', S', h1, h2, hS', fun D hD => ?_, fun D hD => ?_⟩
          · obtain ⟨d, rfl⟩ : ∃ d, D = d + 1 + 1 := ⟨D - 2, by omega⟩
            intro o l β w Q X hw k
            obtain ⟨p1, p2, p3⟩ := hw.2.2.1 i hin
            apply xX9_runSteps_51
            unfold vX9_runSteps_51
            rw [hw.2.2.2.1, nI_1 i, nI_clamp (show i < 2 ^ 31 by omega), p2, p3, nI_leI (by omega) (by omega)]
            refine ⟨(vp_nI (by omega)).mpr (by omega), fun _ => ⟨(vp_nI (by omega)).mpr (by omega), k_maxN (by omega) (by omega) ?_⟩, fun q => absurd (show fs i ≤ x by omega) q⟩
            rw [Nat.max_eq_right hs1]
            exact kc (d + 1 + 1) (by omega) o l β w Q X hw k
          · obtain ⟨d, rfl⟩ : ∃ d, D = d + 1 + 1 := ⟨D - 2, by omega⟩
            intro w Q X hw k
            obtain ⟨p1, p2, p3⟩ := hw.2.2.1 i hin
            apply xX12_goesSteps_50
            unfold vX12_goesSteps_50
            rw [hw.2.2.2.1, a1, nI_clamp (show 3 * i + 1 < 2 ^ 31 by omega), p2, nI_leI (by omega) (by omega)]
            exact ⟨(vp_nI (by omega)).mpr (by omega), fun _ => rc (d + 1 + 1) (by omega) w Q X hw k, fun q => absurd (show fs i ≤ x by omega) q⟩
        | succ m ihm =>
          intro S b1 y z x hm hx hb1 hb2 hS
          by_cases hgo : x < fs i ∧ b1 < 200
          · obtain ⟨b2, y2, z2, S2, h1, h2, hS2, kc, rc⟩ := ih S b1 y z (i + 1) (sc i) hS (by omega) hb2 (by omega) hs2
            obtain ⟨b', y', z', S', h3, h4, hS', kd2, rd2⟩ := ihm S2 b2 y2 z2 (x + 1) (by omega) (by omega) (by omega) h2 hS2
            refine ⟨b', y', z', S', by omega, h4, hS', fun D hD => ?_, fun D hD => ?_⟩
            · obtain ⟨d, rfl⟩ : ∃ d, D = d + 1 + 1 := ⟨D - 2, by omega⟩
              intro o l β w Q X hw k
              obtain ⟨p1, p2, p3⟩ := hw.2.2.1 i hin
              apply xX9_runSteps_51
              unfold vX9_runSteps_51
              rw [hw.2.2.2.1, nI_1 i, nI_1 x, nI_clamp (show i < 2 ^ 31 by omega), p2, p3, L_200, nI_leI (by omega) (by omega), nI_leI (by omega) (by omega)]
              refine ⟨(vp_nI (by omega)).mpr (by omega), fun q => absurd q (by omega), fun _ => ⟨fun q => absurd q (by omega), fun _ => ⟨(vp_nI (by omega)).mpr (by omega), ?_⟩⟩⟩
              apply eX9_runSteps
              unfold vX9_runSteps_0
              exact kc (d + 1) (by omega) o l β w _ X hw (fun u fu hu => kd2 (d + 1 + 1) hD o l β u Q X hu (fun u2 f2 h2 => k u2 (fu.trans f2) h2))
            · obtain ⟨d, rfl⟩ : ∃ d, D = d + 1 + 1 := ⟨D - 2, by omega⟩
              intro w Q X hw k
              obtain ⟨p1, p2, p3⟩ := hw.2.2.1 i hin
              apply xX12_goesSteps_50
              unfold vX12_goesSteps_50
              rw [hw.2.2.2.1, a1, a3, nI_1 x, nI_clamp (show 3 * i + 1 < 2 ^ 31 by omega), p2, L_200, nI_leI (by omega) (by omega), nI_leI (by omega) (by omega)]
              refine ⟨(vp_nI (by omega)).mpr (by omega), fun q => absurd q (by omega), fun _ => ⟨fun q => absurd q (by omega), fun _ => ?_⟩⟩
              apply eX12_goesSteps
              unfold vX12_goesSteps_0
              exact rc (d + 1) (by omega) w _ X hw (fun u fu hu => rd2 (d + 1 + 1) hD u Q X hu (fun u2 f2 h2 => k u2 (fu.trans f2) h2))
          · obtain ⟨b', y', z', S', h1, h2, hS', kc, rc⟩ := ih S b1 y z (sc i) t hS (by omega) hb2 hs2 ht
            refine ⟨b', y', z', S', h1, h2, hS', fun D hD => ?_, fun D hD => ?_⟩
            · obtain ⟨d, rfl⟩ : ∃ d, D = d + 1 + 1 := ⟨D - 2, by omega⟩
              intro o l β w Q X hw k
              obtain ⟨p1, p2, p3⟩ := hw.2.2.1 i hin
              apply xX9_runSteps_51
              unfold vX9_runSteps_51
              have hv := (vp_nI (n := i) (N := 150) (by omega)).mpr (by omega)
              rw [hw.2.2.2.1, nI_1 i, nI_clamp (show i < 2 ^ 31 by omega), p2, p3, L_200, nI_leI (by omega) (by omega), nI_leI (by omega) (by omega)]
              have hk2 := kc (d + 1 + 1) (by omega) o l β w Q X hw k
              refine ⟨hv, fun _ => ⟨hv, k_maxN (by omega) (by omega) ?_⟩, fun q => ⟨fun _ => ⟨hv, k_maxN (by omega) (by omega) ?_⟩, fun q2 => absurd hgo (fun z => z (by omega))⟩⟩
              · rw [Nat.max_eq_right hs1]; exact hk2
              · rw [Nat.max_eq_right hs1]; exact hk2
            · obtain ⟨d, rfl⟩ : ∃ d, D = d + 1 + 1 := ⟨D - 2, by omega⟩
              intro w Q X hw k
              obtain ⟨p1, p2, p3⟩ := hw.2.2.1 i hin
              apply xX12_goesSteps_50
              unfold vX12_goesSteps_50
              rw [hw.2.2.2.1, a1, nI_clamp (show 3 * i + 1 < 2 ^ 31 by omega), p2, L_200, nI_leI (by omega) (by omega), nI_leI (by omega) (by omega)]
              have hk2 := rc (d + 1 + 1) (by omega) w Q X hw k
              exact ⟨(vp_nI (by omega)).mpr (by omega), fun _ => hk2, fun q => ⟨fun _ => hk2, fun q2 => absurd (show x < fs i ∧ b1 < 200 by omega) hgo⟩⟩
      obtain ⟨b', y', z', S', hb1, hb2, hS', kc, rc⟩ := inner (fs i) S (b + 1) y z 0 (by omega) (by omega) (by omega) (by omega) hS
      refine ⟨b', y', z', S', by omega, hb2, hS', fun D hD => ?_, fun D hD => ?_⟩
      · obtain ⟨d, rfl⟩ : ∃ d, D = d + 1 := ⟨D - 1, by omega⟩
        intro o l β w Q X hw k
        apply xX9_runSteps_3
        unfold vX9_runSteps_3
        rw [hw.2.2.2.1, nI_1 b, L_150, L_200, nI_leI (by omega) (by omega), nI_leI (by omega) (by omega), nI_leI (by omega) (by omega), nI_clamp (show i < 2 ^ 31 by omega)]
        refine ⟨fun q => absurd q (by omega), fun _ => ⟨fun q => absurd q (by omega), fun _ => ⟨fun q => absurd q (by omega), fun _ => ?_⟩⟩⟩
        intro w1 e1
        have hw1 : rnC o l T β C nn kd fs sc n S (b + 1) y z w1 := by rw [e1]; exact hw.w4
        have f1 : fr aRu w w1 := by rw [e1]; exact fr.wr rfl
        obtain ⟨p1, p2, p3⟩ := hw1.2.2.1 i hin
        rw [p1, L_5, nI_eq (by omega) (by omega)]
        exact ⟨(vp_nI (by omega)).mpr (by omega), fun q => absurd hk q, fun _ => kc (d + 1) (by omega) o l β w1 Q X hw1 (fun u2 f2 h2 => k u2 (f1.trans f2) h2)⟩
      · obtain ⟨d, rfl⟩ : ∃ d, D = d + 1 := ⟨D - 1, by omega⟩
        intro w Q X hw k
        apply xX12_goesSteps_2
        unfold vX12_goesSteps_2
        rw [hw.2.2.2.1, nI_1 b, a2, L_200, nI_leI (by omega) (by omega), nI_leI (by omega) (by omega), nI_clamp (show 3 * i < 2 ^ 31 by omega), nI_clamp (show 3 * i + 2 < 2 ^ 31 by omega)]
        refine ⟨fun q => absurd q (by omega), fun _ => ⟨fun q => absurd q (by omega), fun _ => ?_⟩⟩
        intro w1 e1
        have hw1 : rnR T C nn kd fs sc n S (b + 1) y z w1 := by rw [e1]; exact hw.w4
        have f1 : fr aGo w w1 := by rw [e1]; exact fr.wr rfl
        obtain ⟨p1, p2, p3⟩ := hw1.2.2.1 i hin
        rw [p1, p3, e3, L_5, nI_eq (by omega) (by omega)]
        exact ⟨(vp_nI (by omega)).mpr (by omega), fun q => absurd hk q, fun _ => ⟨(vp_nI (by omega)).mpr (by omega), rc (d + 1) (by omega) w1 Q X hw1 (fun u2 f2 h2 => k u2 (f1.trans f2) h2)⟩⟩
