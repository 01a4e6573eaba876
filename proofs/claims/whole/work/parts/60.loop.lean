/-! the law out of the agreements of its calls -/
def X0 : s_Xo := fun _ _ => False
def er_I (E : String) (k : Int32) : Prop := E = "java/lang/IllegalArgumentException" ∧ k = 1
def er_N (E : String) (k : Int32) : Prop := E = "java/util/NoSuchElementException" ∧ k = 1
def er_B (E : String) (k : Int32) : Prop := (E = "java/util/NoSuchElementException" ∧ k = 1) ∨ (E = "java/lang/IllegalArgumentException" ∧ k = 2)
/-- a call that throws nothing, on both sides -/
def ag_D (Inv : q_Sm → Prop) (d : Nat) (M1 M2 : q_Mt) (w : q_Sm) (As : List Value) : Prop := s_EvI d 0 M1 w (.ref 1 :: As) (fun v u => s_EvI d 0 M2 u (.ref 79 :: As) (fun v2 u2 => v = v2 ∧ Inv u2) X0) X0
/-- a call that may be refused -/
def ag_W (Inv : q_Sm → Prop) (d a : Nat) (er : String → Int32 → Prop) (M1 M2 : q_Mt) (w : q_Sm) (As : List Value) : Prop :=
  s_EvI d a M1 w (.ref 1 :: As) (fun v u => s_EvI (d + 1) 0 M2 (q_wJ u 116 0 (Int32.toInt64 v)) (.ref 79 :: As) (fun v2 u2 => u2.1 79 0 = 0 ∧ u2.2.1 116 0 = Int32.toInt64 v2 ∧ Inv u2) X0) (fun E u => ∃ k, er E k ∧ s_EvI (d + 1) 0 M2 u (.ref 79 :: As) (fun _ u2 => u2.1 79 0 = k ∧ Inv u2) X0)
def ag_Z (Inv : q_Sm → Prop) (d a : Nat) (er : String → Int32 → Prop) (M1 M2 : q_Mt) (w : q_Sm) (As : List Value) : Prop :=
  s_EvI d a M1 w (.ref 1 :: As) (fun v u => s_EvI (d + 1) 0 M2 (q_wJ u 116 0 (if v = 0 then 0 else 1)) (.ref 79 :: As) (fun v2 u2 => u2.1 79 0 = 0 ∧ u2.2.1 116 0 = (if v2 = 0 then 0 else 1) ∧ Inv u2) X0) (fun E u => ∃ k, er E k ∧ s_EvI (d + 1) 0 M2 u (.ref 79 :: As) (fun _ u2 => u2.1 79 0 = k ∧ Inv u2) X0)
def ag_J (Inv : q_Sm → Prop) (d a : Nat) (er : String → Int32 → Prop) (M1 M2 : q_Mt) (w : q_Sm) (As : List Value) : Prop :=
  s_EvJ d a M1 w (.ref 1 :: As) (fun v u => s_EvJ (d + 1) 0 M2 (q_wJ u 116 0 v) (.ref 79 :: As) (fun v2 u2 => u2.1 79 0 = 0 ∧ u2.2.1 116 0 = v2 ∧ Inv u2) X0) (fun E u => ∃ k, er E k ∧ s_EvJ (d + 1) 0 M2 u (.ref 79 :: As) (fun _ u2 => u2.1 79 0 = k ∧ Inv u2) X0)
theorem lp_lt {N i : Nat} (hN : N ≤ 3072) (hi : i ≤ 4000) : (Int32.ofNat N - 6 < nI i) ↔ N < i + 6 := by
  by_cases h : 6 ≤ N
  · have e1 : Int32.ofNat N - 6 = nI (N - 6) := by
      have e2 : nI (N - 6) + nI 6 = nI N := by rw [nI_add, Nat.sub_add_cancel h]
      have e3 : Int32.ofNat N = nI (N - 6) + 6 := e2.symm
      rw [e3, Int32.add_sub_cancel]
    rw [e1, nI_ltI (by omega) (by omega)]
    omega
  · refine ⟨fun _ => by omega, fun _ => ?_⟩
    have h0 : (0 : Int32) ≤ nI i := nI_le (a := 0) (by omega) (by omega)
    have h1 : Int32.ofNat N - 6 < 0 := by
      match N, h with
      | 0, _ => decide
      | 1, _ => decide
      | 2, _ => decide
      | 3, _ => decide
      | 4, _ => decide
      | 5, _ => decide
      | N + 6, h => omega
    exact Int32.lt_of_lt_of_le h1 h0
theorem lc_0 {Φ : p_Cc} {N : Nat} {xs : Nat → Int32} {d a : Nat} {x4 : Int32} {w : q_Sm} {Q : s_Po} {Inv : q_Sm → Prop} (b1 : vp_in (x4 + 1) N) (b2 : vp_in (x4 + 2) N) (b3 : vp_in (x4 + 3) N) (b4 : vp_in (x4 + 4) N) (b5 : vp_in (x4 + 5) N) (h : ag_D Inv (d + 1) mX11_feed mX12_feed w [.int (xs (Int32.toNatClampNeg (x4 + 1))), .int (xs (Int32.toNatClampNeg (x4 + 2))), .int (xs (Int32.toNatClampNeg (x4 + 3))), .int (xs (Int32.toNatClampNeg (x4 + 4))), .int (xs (Int32.toNatClampNeg (x4 + 5)))]) (loop : ∀ u, Inv u → ps_Ex Φ (d + 1 + 1) a mL_law_ 23 [some (.retAddr (999)), some (.ref (1)), some (.ref (79)), some (.ref (116)), some (.int (x4 + 6)), none, none, none] [] u Q X0) : vL_law_0 Φ N xs (d + 1) a x4 w Q X0 := by
  unfold vL_law_0
  exact ⟨b1, b2, b3, b4, b5, s_mono h (s_I_of (fun v u h => ⟨v, rfl, b1, b2, b3, b4, b5, s_mono h (s_I_of (fun v2 u2 h => ⟨v2, rfl, fun _ => loop u2 h.2, fun hn => absurd h.1 hn⟩)) (fun _ _ h => h)⟩)) (fun _ _ h => h)⟩
theorem lc_1 {Φ : p_Cc} {N : Nat} {xs : Nat → Int32} {d a : Nat} {x4 : Int32} {w : q_Sm} {Q : s_Po} {Inv : q_Sm → Prop} (b1 : vp_in (x4 + 1) N) (h : ag_W Inv d 1 er_I mX11_coast mX12_coast w [.int (xs (Int32.toNatClampNeg (x4 + 1)))]) (loop : ∀ u, Inv u → ps_Ex Φ (d + 1 + 1) a mL_law_ 23 [some (.retAddr (999)), some (.ref (1)), some (.ref (79)), some (.ref (116)), some (.int (x4 + 6)), none, none, none] [] u Q X0) : vL_law_1 Φ N xs (d + 1) a x4 w Q X0 := by
  unfold vL_law_1
  refine ⟨b1, eL_coast (s_mono h (s_I_of (fun v u h => ⟨v, rfl, ?_⟩)) (fun E u h => ?_))⟩
  · refine ⟨0, rfl, b1, s_mono h (s_I_of (fun v2 u2 h => ⟨v2, rfl, ?_⟩)) (fun _ _ h => h)⟩
    obtain ⟨h1, h2, h3⟩ := h
    apply eX12_thrown
    unfold vX12_thrown_0
    exact ⟨_, rfl, fun _ => ⟨fun hn => absurd rfl hn, fun _ => ⟨fun _ => loop u2 h3, fun hc => absurd ((lg_cmp_eq _ _).mpr h2) hc⟩⟩, fun hn => absurd h1 hn⟩
  · obtain ⟨k, ⟨rfl, rfl⟩, h⟩ := h
    refine ⟨rfl, ⟨1, rfl, b1, s_mono h (s_I_of (fun v2 u2 h => ⟨v2, rfl, ?_⟩)) (fun _ _ h => h)⟩⟩
    obtain ⟨h1, h3⟩ := h
    apply eX12_thrown
    unfold vX12_thrown_0
    exact ⟨_, rfl, fun _ => ⟨fun _ => loop u2 h3, fun hn => absurd (show ¬ (1 : Int32) = 0 by decide) hn⟩, fun hn => absurd h1 hn⟩
theorem lc_2 {Φ : p_Cc} {N : Nat} {xs : Nat → Int32} {d a : Nat} {x4 : Int32} {w : q_Sm} {Q : s_Po} {Inv : q_Sm → Prop} (b1 : vp_in (x4 + 1) N) (h : ag_W Inv d 1 er_I mX11_law mX12_law w [.int (xs (Int32.toNatClampNeg (x4 + 1)))]) (loop : ∀ u, Inv u → ps_Ex Φ (d + 1 + 1) a mL_law_ 23 [some (.retAddr (999)), some (.ref (1)), some (.ref (79)), some (.ref (116)), some (.int (x4 + 6)), none, none, none] [] u Q X0) : vL_law_2 Φ N xs (d + 1) a x4 w Q X0 := by
  unfold vL_law_2
  refine ⟨b1, eL_law (s_mono h (s_I_of (fun v u h => ⟨v, rfl, ?_⟩)) (fun E u h => ?_))⟩
  · refine ⟨0, rfl, b1, s_mono h (s_I_of (fun v2 u2 h => ⟨v2, rfl, ?_⟩)) (fun _ _ h => h)⟩
    obtain ⟨h1, h2, h3⟩ := h
    apply eX12_thrown
    unfold vX12_thrown_0
    exact ⟨_, rfl, fun _ => ⟨fun hn => absurd rfl hn, fun _ => ⟨fun _ => loop u2 h3, fun hc => absurd ((lg_cmp_eq _ _).mpr h2) hc⟩⟩, fun hn => absurd h1 hn⟩
  · obtain ⟨k, ⟨rfl, rfl⟩, h⟩ := h
    refine ⟨rfl, ⟨1, rfl, b1, s_mono h (s_I_of (fun v2 u2 h => ⟨v2, rfl, ?_⟩)) (fun _ _ h => h)⟩⟩
    obtain ⟨h1, h3⟩ := h
    apply eX12_thrown
    unfold vX12_thrown_0
    exact ⟨_, rfl, fun _ => ⟨fun _ => loop u2 h3, fun hn => absurd (show ¬ (1 : Int32) = 0 by decide) hn⟩, fun hn => absurd h1 hn⟩
theorem lc_3 {Φ : p_Cc} {N : Nat} {xs : Nat → Int32} {d a : Nat} {x4 : Int32} {w : q_Sm} {Q : s_Po} {Inv : q_Sm → Prop} (b1 : vp_in (x4 + 1) N) (h : ag_W Inv d 1 er_I mX11_work mX12_work w [.int (xs (Int32.toNatClampNeg (x4 + 1)))]) (loop : ∀ u, Inv u → ps_Ex Φ (d + 1 + 1) a mL_law_ 23 [some (.retAddr (999)), some (.ref (1)), some (.ref (79)), some (.ref (116)), some (.int (x4 + 6)), none, none, none] [] u Q X0) : vL_law_3 Φ N xs (d + 1) a x4 w Q X0 := by
  unfold vL_law_3
  refine ⟨b1, eL_work (s_mono h (s_I_of (fun v u h => ⟨v, rfl, ?_⟩)) (fun E u h => ?_))⟩
  · refine ⟨0, rfl, b1, s_mono h (s_I_of (fun v2 u2 h => ⟨v2, rfl, ?_⟩)) (fun _ _ h => h)⟩
    obtain ⟨h1, h2, h3⟩ := h
    apply eX12_thrown
    unfold vX12_thrown_0
    exact ⟨_, rfl, fun _ => ⟨fun hn => absurd rfl hn, fun _ => ⟨fun _ => loop u2 h3, fun hc => absurd ((lg_cmp_eq _ _).mpr h2) hc⟩⟩, fun hn => absurd h1 hn⟩
  · obtain ⟨k, ⟨rfl, rfl⟩, h⟩ := h
    refine ⟨rfl, ⟨1, rfl, b1, s_mono h (s_I_of (fun v2 u2 h => ⟨v2, rfl, ?_⟩)) (fun _ _ h => h)⟩⟩
    obtain ⟨h1, h3⟩ := h
    apply eX12_thrown
    unfold vX12_thrown_0
    exact ⟨_, rfl, fun _ => ⟨fun _ => loop u2 h3, fun hn => absurd (show ¬ (1 : Int32) = 0 by decide) hn⟩, fun hn => absurd h1 hn⟩
theorem lc_4 {Φ : p_Cc} {N : Nat} {xs : Nat → Int32} {d a : Nat} {x4 : Int32} {w : q_Sm} {Q : s_Po} {Inv : q_Sm → Prop} (b1 : vp_in (x4 + 1) N) (h : ag_W Inv d 1 er_I mX11_book mX12_book w [.int (xs (Int32.toNatClampNeg (x4 + 1)))]) (loop : ∀ u, Inv u → ps_Ex Φ (d + 1 + 1) a mL_law_ 23 [some (.retAddr (999)), some (.ref (1)), some (.ref (79)), some (.ref (116)), some (.int (x4 + 6)), none, none, none] [] u Q X0) : vL_law_4 Φ N xs (d + 1) a x4 w Q X0 := by
  unfold vL_law_4
  refine ⟨b1, eL_book (s_mono h (s_I_of (fun v u h => ⟨v, rfl, ?_⟩)) (fun E u h => ?_))⟩
  · refine ⟨0, rfl, b1, s_mono h (s_I_of (fun v2 u2 h => ⟨v2, rfl, ?_⟩)) (fun _ _ h => h)⟩
    obtain ⟨h1, h2, h3⟩ := h
    apply eX12_thrown
    unfold vX12_thrown_0
    exact ⟨_, rfl, fun _ => ⟨fun hn => absurd rfl hn, fun _ => ⟨fun _ => loop u2 h3, fun hc => absurd ((lg_cmp_eq _ _).mpr h2) hc⟩⟩, fun hn => absurd h1 hn⟩
  · obtain ⟨k, ⟨rfl, rfl⟩, h⟩ := h
    refine ⟨rfl, ⟨1, rfl, b1, s_mono h (s_I_of (fun v2 u2 h => ⟨v2, rfl, ?_⟩)) (fun _ _ h => h)⟩⟩
    obtain ⟨h1, h3⟩ := h
    apply eX12_thrown
    unfold vX12_thrown_0
    exact ⟨_, rfl, fun _ => ⟨fun _ => loop u2 h3, fun hn => absurd (show ¬ (1 : Int32) = 0 by decide) hn⟩, fun hn => absurd h1 hn⟩
theorem lc_5 {Φ : p_Cc} {N : Nat} {xs : Nat → Int32} {d a : Nat} {x4 : Int32} {w : q_Sm} {Q : s_Po} {Inv : q_Sm → Prop}  (h : ag_D Inv (d + 1) mX11_fault mX12_fault w []) (loop : ∀ u, Inv u → ps_Ex Φ (d + 1 + 1) a mL_law_ 23 [some (.retAddr (999)), some (.ref (1)), some (.ref (79)), some (.ref (116)), some (.int (x4 + 6)), none, none, none] [] u Q X0) : vL_law_5 Φ N xs (d + 1) a x4 w Q X0 := by
  unfold vL_law_5
  exact s_mono h (s_I_of (fun v u h => ⟨v, rfl, s_mono h (s_I_of (fun v2 u2 h => ⟨v2, rfl, fun _ => loop u2 h.2, fun hn => absurd h.1 hn⟩)) (fun _ _ h => h)⟩)) (fun _ _ h => h)
theorem lc_6 {Φ : p_Cc} {N : Nat} {xs : Nat → Int32} {d a : Nat} {x4 : Int32} {w : q_Sm} {Q : s_Po} {Inv : q_Sm → Prop}  (h : ag_D Inv (d + 1) mX11_undo mX12_undo w []) (loop : ∀ u, Inv u → ps_Ex Φ (d + 1 + 1) a mL_law_ 23 [some (.retAddr (999)), some (.ref (1)), some (.ref (79)), some (.ref (116)), some (.int (x4 + 6)), none, none, none] [] u Q X0) : vL_law_6 Φ N xs (d + 1) a x4 w Q X0 := by
  unfold vL_law_6
  exact s_mono h (s_I_of (fun v u h => ⟨v, rfl, s_mono h (s_I_of (fun v2 u2 h => ⟨v2, rfl, fun _ => loop u2 h.2, fun hn => absurd h.1 hn⟩)) (fun _ _ h => h)⟩)) (fun _ _ h => h)
theorem lc_7 {Φ : p_Cc} {N : Nat} {xs : Nat → Int32} {d a : Nat} {x4 : Int32} {w : q_Sm} {Q : s_Po} {Inv : q_Sm → Prop} (b1 : vp_in (x4 + 1) N) (h : ag_W Inv d 1 er_I mX11_told mX12_told w [.int (xs (Int32.toNatClampNeg (x4 + 1)))]) (loop : ∀ u, Inv u → ps_Ex Φ (d + 1 + 1) a mL_law_ 23 [some (.retAddr (999)), some (.ref (1)), some (.ref (79)), some (.ref (116)), some (.int (x4 + 6)), none, none, none] [] u Q X0) : vL_law_7 Φ N xs (d + 1) a x4 w Q X0 := by
  unfold vL_law_7
  refine ⟨b1, eL_told (s_mono h (s_I_of (fun v u h => ⟨v, rfl, ?_⟩)) (fun E u h => ?_))⟩
  · refine ⟨0, rfl, b1, s_mono h (s_I_of (fun v2 u2 h => ⟨v2, rfl, ?_⟩)) (fun _ _ h => h)⟩
    obtain ⟨h1, h2, h3⟩ := h
    apply eX12_thrown
    unfold vX12_thrown_0
    exact ⟨_, rfl, fun _ => ⟨fun hn => absurd rfl hn, fun _ => ⟨fun _ => loop u2 h3, fun hc => absurd ((lg_cmp_eq _ _).mpr h2) hc⟩⟩, fun hn => absurd h1 hn⟩
  · obtain ⟨k, ⟨rfl, rfl⟩, h⟩ := h
    refine ⟨rfl, ⟨1, rfl, b1, s_mono h (s_I_of (fun v2 u2 h => ⟨v2, rfl, ?_⟩)) (fun _ _ h => h)⟩⟩
    obtain ⟨h1, h3⟩ := h
    apply eX12_thrown
    unfold vX12_thrown_0
    exact ⟨_, rfl, fun _ => ⟨fun _ => loop u2 h3, fun hn => absurd (show ¬ (1 : Int32) = 0 by decide) hn⟩, fun hn => absurd h1 hn⟩
theorem lc_8 {Φ : p_Cc} {N : Nat} {xs : Nat → Int32} {d a : Nat} {x4 : Int32} {w : q_Sm} {Q : s_Po} {Inv : q_Sm → Prop} (b1 : vp_in (x4 + 1) N) (b2 : vp_in (x4 + 2) N) (h : ag_W Inv d 2 er_B mX11_creditor mX12_creditor w [.int (xs (Int32.toNatClampNeg (x4 + 1))), .int (xs (Int32.toNatClampNeg (x4 + 2)))]) (loop : ∀ u, Inv u → ps_Ex Φ (d + 1 + 1) a mL_law_ 23 [some (.retAddr (999)), some (.ref (1)), some (.ref (79)), some (.ref (116)), some (.int (x4 + 6)), none, none, none] [] u Q X0) : vL_law_8 Φ N xs (d + 1) a x4 w Q X0 := by
  unfold vL_law_8
  refine ⟨b1, b2, eL_creditor (s_mono h (s_I_of (fun v u h => ⟨v, rfl, ?_⟩)) (fun E u h => ?_))⟩
  · refine ⟨0, rfl, b1, b2, s_mono h (s_I_of (fun v2 u2 h => ⟨v2, rfl, ?_⟩)) (fun _ _ h => h)⟩
    obtain ⟨h1, h2, h3⟩ := h
    apply eX12_thrown
    unfold vX12_thrown_0
    exact ⟨_, rfl, fun _ => ⟨fun hn => absurd rfl hn, fun _ => ⟨fun _ => loop u2 h3, fun hc => absurd ((lg_cmp_eq _ _).mpr h2) hc⟩⟩, fun hn => absurd h1 hn⟩
  · obtain ⟨k, hk, h⟩ := h
    rcases hk with ⟨rfl, rfl⟩ | ⟨rfl, rfl⟩
    · left
      refine ⟨rfl, ⟨1, rfl, b1, b2, s_mono h (s_I_of (fun v2 u2 h => ⟨v2, rfl, ?_⟩)) (fun _ _ h => h)⟩⟩
      obtain ⟨h1, h3⟩ := h
      apply eX12_thrown
      unfold vX12_thrown_0
      exact ⟨_, rfl, fun _ => ⟨fun _ => loop u2 h3, fun hn => absurd (show ¬ (1 : Int32) = 0 by decide) hn⟩, fun hn => absurd h1 hn⟩
    · right
      refine ⟨rfl, ⟨2, rfl, b1, b2, s_mono h (s_I_of (fun v2 u2 h => ⟨v2, rfl, ?_⟩)) (fun _ _ h => h)⟩⟩
      obtain ⟨h1, h3⟩ := h
      apply eX12_thrown
      unfold vX12_thrown_0
      exact ⟨_, rfl, fun _ => ⟨fun _ => loop u2 h3, fun hn => absurd (show ¬ (2 : Int32) = 0 by decide) hn⟩, fun hn => absurd h1 hn⟩
theorem lc_9 {Φ : p_Cc} {N : Nat} {xs : Nat → Int32} {d a : Nat} {x4 : Int32} {w : q_Sm} {Q : s_Po} {Inv : q_Sm → Prop} (b1 : vp_in (x4 + 1) N) (b2 : vp_in (x4 + 2) N) (h : ag_W Inv d 2 er_B mX11_debt mX12_debt w [.int (xs (Int32.toNatClampNeg (x4 + 1))), .int (xs (Int32.toNatClampNeg (x4 + 2)))]) (loop : ∀ u, Inv u → ps_Ex Φ (d + 1 + 1) a mL_law_ 23 [some (.retAddr (999)), some (.ref (1)), some (.ref (79)), some (.ref (116)), some (.int (x4 + 6)), none, none, none] [] u Q X0) : vL_law_9 Φ N xs (d + 1) a x4 w Q X0 := by
  unfold vL_law_9
  refine ⟨b1, b2, eL_debt (s_mono h (s_I_of (fun v u h => ⟨v, rfl, ?_⟩)) (fun E u h => ?_))⟩
  · refine ⟨0, rfl, b1, b2, s_mono h (s_I_of (fun v2 u2 h => ⟨v2, rfl, ?_⟩)) (fun _ _ h => h)⟩
    obtain ⟨h1, h2, h3⟩ := h
    apply eX12_thrown
    unfold vX12_thrown_0
    exact ⟨_, rfl, fun _ => ⟨fun hn => absurd rfl hn, fun _ => ⟨fun _ => loop u2 h3, fun hc => absurd ((lg_cmp_eq _ _).mpr h2) hc⟩⟩, fun hn => absurd h1 hn⟩
  · obtain ⟨k, hk, h⟩ := h
    rcases hk with ⟨rfl, rfl⟩ | ⟨rfl, rfl⟩
    · left
      refine ⟨rfl, ⟨1, rfl, b1, b2, s_mono h (s_I_of (fun v2 u2 h => ⟨v2, rfl, ?_⟩)) (fun _ _ h => h)⟩⟩
      obtain ⟨h1, h3⟩ := h
      apply eX12_thrown
      unfold vX12_thrown_0
      exact ⟨_, rfl, fun _ => ⟨fun _ => loop u2 h3, fun hn => absurd (show ¬ (1 : Int32) = 0 by decide) hn⟩, fun hn => absurd h1 hn⟩
    · right
      refine ⟨rfl, ⟨2, rfl, b1, b2, s_mono h (s_I_of (fun v2 u2 h => ⟨v2, rfl, ?_⟩)) (fun _ _ h => h)⟩⟩
      obtain ⟨h1, h3⟩ := h
      apply eX12_thrown
      unfold vX12_thrown_0
      exact ⟨_, rfl, fun _ => ⟨fun _ => loop u2 h3, fun hn => absurd (show ¬ (2 : Int32) = 0 by decide) hn⟩, fun hn => absurd h1 hn⟩
theorem lc_10 {Φ : p_Cc} {N : Nat} {xs : Nat → Int32} {d a : Nat} {x4 : Int32} {w : q_Sm} {Q : s_Po} {Inv : q_Sm → Prop} (b1 : vp_in (x4 + 1) N) (b2 : vp_in (x4 + 2) N) (h : ag_W Inv d 1 er_I mX11_light mX12_light w [.int (xs (Int32.toNatClampNeg (x4 + 1))), .int (xs (Int32.toNatClampNeg (x4 + 2)))]) (loop : ∀ u, Inv u → ps_Ex Φ (d + 1 + 1) a mL_law_ 23 [some (.retAddr (999)), some (.ref (1)), some (.ref (79)), some (.ref (116)), some (.int (x4 + 6)), none, none, none] [] u Q X0) : vL_law_10 Φ N xs (d + 1) a x4 w Q X0 := by
  unfold vL_law_10
  refine ⟨b1, b2, eL_light (s_mono h (s_I_of (fun v u h => ⟨v, rfl, ?_⟩)) (fun E u h => ?_))⟩
  · refine ⟨0, rfl, b1, b2, s_mono h (s_I_of (fun v2 u2 h => ⟨v2, rfl, ?_⟩)) (fun _ _ h => h)⟩
    obtain ⟨h1, h2, h3⟩ := h
    apply eX12_thrown
    unfold vX12_thrown_0
    exact ⟨_, rfl, fun _ => ⟨fun hn => absurd rfl hn, fun _ => ⟨fun _ => loop u2 h3, fun hc => absurd ((lg_cmp_eq _ _).mpr h2) hc⟩⟩, fun hn => absurd h1 hn⟩
  · obtain ⟨k, ⟨rfl, rfl⟩, h⟩ := h
    refine ⟨rfl, ⟨1, rfl, b1, b2, s_mono h (s_I_of (fun v2 u2 h => ⟨v2, rfl, ?_⟩)) (fun _ _ h => h)⟩⟩
    obtain ⟨h1, h3⟩ := h
    apply eX12_thrown
    unfold vX12_thrown_0
    exact ⟨_, rfl, fun _ => ⟨fun _ => loop u2 h3, fun hn => absurd (show ¬ (1 : Int32) = 0 by decide) hn⟩, fun hn => absurd h1 hn⟩
theorem lc_11 {Φ : p_Cc} {N : Nat} {xs : Nat → Int32} {d a : Nat} {x4 : Int32} {w : q_Sm} {Q : s_Po} {Inv : q_Sm → Prop} (b1 : vp_in (x4 + 1) N) (b2 : vp_in (x4 + 2) N) (h : ag_W Inv d 1 er_I mX11_dusk mX12_dusk w [.int (xs (Int32.toNatClampNeg (x4 + 1))), .int (xs (Int32.toNatClampNeg (x4 + 2)))]) (loop : ∀ u, Inv u → ps_Ex Φ (d + 1 + 1) a mL_law_ 23 [some (.retAddr (999)), some (.ref (1)), some (.ref (79)), some (.ref (116)), some (.int (x4 + 6)), none, none, none] [] u Q X0) : vL_law_11 Φ N xs (d + 1) a x4 w Q X0 := by
  unfold vL_law_11
  refine ⟨b1, b2, eL_dusk (s_mono h (s_I_of (fun v u h => ⟨v, rfl, ?_⟩)) (fun E u h => ?_))⟩
  · refine ⟨0, rfl, b1, b2, s_mono h (s_I_of (fun v2 u2 h => ⟨v2, rfl, ?_⟩)) (fun _ _ h => h)⟩
    obtain ⟨h1, h2, h3⟩ := h
    apply eX12_thrown
    unfold vX12_thrown_0
    exact ⟨_, rfl, fun _ => ⟨fun hn => absurd rfl hn, fun _ => ⟨fun _ => loop u2 h3, fun hc => absurd ((lg_cmp_eq _ _).mpr h2) hc⟩⟩, fun hn => absurd h1 hn⟩
  · obtain ⟨k, ⟨rfl, rfl⟩, h⟩ := h
    refine ⟨rfl, ⟨1, rfl, b1, b2, s_mono h (s_I_of (fun v2 u2 h => ⟨v2, rfl, ?_⟩)) (fun _ _ h => h)⟩⟩
    obtain ⟨h1, h3⟩ := h
    apply eX12_thrown
    unfold vX12_thrown_0
    exact ⟨_, rfl, fun _ => ⟨fun _ => loop u2 h3, fun hn => absurd (show ¬ (1 : Int32) = 0 by decide) hn⟩, fun hn => absurd h1 hn⟩
theorem lc_12 {Φ : p_Cc} {N : Nat} {xs : Nat → Int32} {d a : Nat} {x4 : Int32} {w : q_Sm} {Q : s_Po} {Inv : q_Sm → Prop} (b1 : vp_in (x4 + 1) N) (b2 : vp_in (x4 + 2) N) (b3 : vp_in (x4 + 3) N) (b4 : vp_in (x4 + 4) N) (h : ag_W Inv d 1 er_I mX11_would mX12_would w [.int (xs (Int32.toNatClampNeg (x4 + 1))), .int (xs (Int32.toNatClampNeg (x4 + 2))), .int (xs (Int32.toNatClampNeg (x4 + 3))), .int (xs (Int32.toNatClampNeg (x4 + 4)))]) (loop : ∀ u, Inv u → ps_Ex Φ (d + 1 + 1) a mL_law_ 23 [some (.retAddr (999)), some (.ref (1)), some (.ref (79)), some (.ref (116)), some (.int (x4 + 6)), none, none, none] [] u Q X0) : vL_law_12 Φ N xs (d + 1) a x4 w Q X0 := by
  unfold vL_law_12
  refine ⟨b1, b2, b3, b4, eL_would (s_mono h (s_I_of (fun v u h => ⟨v, rfl, ?_⟩)) (fun E u h => ?_))⟩
  · refine ⟨0, rfl, b1, b2, b3, b4, s_mono h (s_I_of (fun v2 u2 h => ⟨v2, rfl, ?_⟩)) (fun _ _ h => h)⟩
    obtain ⟨h1, h2, h3⟩ := h
    apply eX12_thrown
    unfold vX12_thrown_0
    exact ⟨_, rfl, fun _ => ⟨fun hn => absurd rfl hn, fun _ => ⟨fun _ => loop u2 h3, fun hc => absurd ((lg_cmp_eq _ _).mpr h2) hc⟩⟩, fun hn => absurd h1 hn⟩
  · obtain ⟨k, ⟨rfl, rfl⟩, h⟩ := h
    refine ⟨rfl, ⟨1, rfl, b1, b2, b3, b4, s_mono h (s_I_of (fun v2 u2 h => ⟨v2, rfl, ?_⟩)) (fun _ _ h => h)⟩⟩
    obtain ⟨h1, h3⟩ := h
    apply eX12_thrown
    unfold vX12_thrown_0
    exact ⟨_, rfl, fun _ => ⟨fun _ => loop u2 h3, fun hn => absurd (show ¬ (1 : Int32) = 0 by decide) hn⟩, fun hn => absurd h1 hn⟩
theorem lc_13 {Φ : p_Cc} {N : Nat} {xs : Nat → Int32} {d a : Nat} {x4 : Int32} {w : q_Sm} {Q : s_Po} {Inv : q_Sm → Prop} (b1 : vp_in (x4 + 1) N) (h : ag_W Inv d 1 er_N mX11_grows mX12_grows w [.int (xs (Int32.toNatClampNeg (x4 + 1)))]) (loop : ∀ u, Inv u → ps_Ex Φ (d + 1 + 1) a mL_law_ 23 [some (.retAddr (999)), some (.ref (1)), some (.ref (79)), some (.ref (116)), some (.int (x4 + 6)), none, none, none] [] u Q X0) : vL_law_13 Φ N xs (d + 1) a x4 w Q X0 := by
  unfold vL_law_13
  refine ⟨b1, eL_grows (s_mono h (s_I_of (fun v u h => ⟨v, rfl, ?_⟩)) (fun E u h => ?_))⟩
  · refine ⟨0, rfl, b1, s_mono h (s_I_of (fun v2 u2 h => ⟨v2, rfl, ?_⟩)) (fun _ _ h => h)⟩
    obtain ⟨h1, h2, h3⟩ := h
    apply eX12_thrown
    unfold vX12_thrown_0
    exact ⟨_, rfl, fun _ => ⟨fun hn => absurd rfl hn, fun _ => ⟨fun _ => loop u2 h3, fun hc => absurd ((lg_cmp_eq _ _).mpr h2) hc⟩⟩, fun hn => absurd h1 hn⟩
  · obtain ⟨k, ⟨rfl, rfl⟩, h⟩ := h
    refine ⟨rfl, ⟨1, rfl, b1, s_mono h (s_I_of (fun v2 u2 h => ⟨v2, rfl, ?_⟩)) (fun _ _ h => h)⟩⟩
    obtain ⟨h1, h3⟩ := h
    apply eX12_thrown
    unfold vX12_thrown_0
    exact ⟨_, rfl, fun _ => ⟨fun _ => loop u2 h3, fun hn => absurd (show ¬ (1 : Int32) = 0 by decide) hn⟩, fun hn => absurd h1 hn⟩
theorem lc_14 {Φ : p_Cc} {N : Nat} {xs : Nat → Int32} {d a : Nat} {x4 : Int32} {w : q_Sm} {Q : s_Po} {Inv : q_Sm → Prop} (b1 : vp_in (x4 + 1) N) (h : ag_W Inv d 1 er_I mX11_best mX12_best w [.int (xs (Int32.toNatClampNeg (x4 + 1)))]) (loop : ∀ u, Inv u → ps_Ex Φ (d + 1 + 1) a mL_law_ 23 [some (.retAddr (999)), some (.ref (1)), some (.ref (79)), some (.ref (116)), some (.int (x4 + 6)), none, none, none] [] u Q X0) : vL_law_14 Φ N xs (d + 1) a x4 w Q X0 := by
  unfold vL_law_14
  refine ⟨b1, eL_best (s_mono h (s_I_of (fun v u h => ⟨v, rfl, ?_⟩)) (fun E u h => ?_))⟩
  · refine ⟨0, rfl, b1, s_mono h (s_I_of (fun v2 u2 h => ⟨v2, rfl, ?_⟩)) (fun _ _ h => h)⟩
    obtain ⟨h1, h2, h3⟩ := h
    apply eX12_thrown
    unfold vX12_thrown_0
    exact ⟨_, rfl, fun _ => ⟨fun hn => absurd rfl hn, fun _ => ⟨fun _ => loop u2 h3, fun hc => absurd ((lg_cmp_eq _ _).mpr h2) hc⟩⟩, fun hn => absurd h1 hn⟩
  · obtain ⟨k, ⟨rfl, rfl⟩, h⟩ := h
    refine ⟨rfl, ⟨1, rfl, b1, s_mono h (s_I_of (fun v2 u2 h => ⟨v2, rfl, ?_⟩)) (fun _ _ h => h)⟩⟩
    obtain ⟨h1, h3⟩ := h
    apply eX12_thrown
    unfold vX12_thrown_0
    exact ⟨_, rfl, fun _ => ⟨fun _ => loop u2 h3, fun hn => absurd (show ¬ (1 : Int32) = 0 by decide) hn⟩, fun hn => absurd h1 hn⟩
theorem lc_15 {Φ : p_Cc} {N : Nat} {xs : Nat → Int32} {d a : Nat} {x4 : Int32} {w : q_Sm} {Q : s_Po} {Inv : q_Sm → Prop}  (h : ag_D Inv (d + 1) mX11_soon mX12_soon w []) (loop : ∀ u, Inv u → ps_Ex Φ (d + 1 + 1) a mL_law_ 23 [some (.retAddr (999)), some (.ref (1)), some (.ref (79)), some (.ref (116)), some (.int (x4 + 6)), none, none, none] [] u Q X0) : vL_law_15 Φ N xs (d + 1) a x4 w Q X0 := by
  unfold vL_law_15
  exact s_mono h (s_I_of (fun v u h => ⟨v, rfl, s_mono h (s_I_of (fun v2 u2 h => ⟨v2, rfl, fun _ => loop u2 h.2, fun hn => absurd h.1 hn⟩)) (fun _ _ h => h)⟩)) (fun _ _ h => h)
theorem lc_16 {Φ : p_Cc} {N : Nat} {xs : Nat → Int32} {d a : Nat} {x4 : Int32} {w : q_Sm} {Q : s_Po} {Inv : q_Sm → Prop} (b1 : vp_in (x4 + 1) N) (h : ag_W Inv d 1 er_I mX11_left mX12_left w [.int (xs (Int32.toNatClampNeg (x4 + 1)))]) (loop : ∀ u, Inv u → ps_Ex Φ (d + 1 + 1) a mL_law_ 23 [some (.retAddr (999)), some (.ref (1)), some (.ref (79)), some (.ref (116)), some (.int (x4 + 6)), none, none, none] [] u Q X0) : vL_law_16 Φ N xs (d + 1) a x4 w Q X0 := by
  unfold vL_law_16
  refine ⟨b1, eL_left (s_mono h (s_I_of (fun v u h => ⟨v, rfl, ?_⟩)) (fun E u h => ?_))⟩
  · refine ⟨0, rfl, b1, s_mono h (s_I_of (fun v2 u2 h => ⟨v2, rfl, ?_⟩)) (fun _ _ h => h)⟩
    obtain ⟨h1, h2, h3⟩ := h
    apply eX12_thrown
    unfold vX12_thrown_0
    exact ⟨_, rfl, fun _ => ⟨fun hn => absurd rfl hn, fun _ => ⟨fun _ => loop u2 h3, fun hc => absurd ((lg_cmp_eq _ _).mpr h2) hc⟩⟩, fun hn => absurd h1 hn⟩
  · obtain ⟨k, ⟨rfl, rfl⟩, h⟩ := h
    refine ⟨rfl, ⟨1, rfl, b1, s_mono h (s_I_of (fun v2 u2 h => ⟨v2, rfl, ?_⟩)) (fun _ _ h => h)⟩⟩
    obtain ⟨h1, h3⟩ := h
    apply eX12_thrown
    unfold vX12_thrown_0
    exact ⟨_, rfl, fun _ => ⟨fun _ => loop u2 h3, fun hn => absurd (show ¬ (1 : Int32) = 0 by decide) hn⟩, fun hn => absurd h1 hn⟩
theorem lc_17 {Φ : p_Cc} {N : Nat} {xs : Nat → Int32} {d a : Nat} {x4 : Int32} {w : q_Sm} {Q : s_Po} {Inv : q_Sm → Prop} (b1 : vp_in (x4 + 1) N) (b2 : vp_in (x4 + 2) N) (h : ag_W Inv d 2 er_B mX11_delay mX12_delay w [.int (xs (Int32.toNatClampNeg (x4 + 1))), .int (xs (Int32.toNatClampNeg (x4 + 2)))]) (loop : ∀ u, Inv u → ps_Ex Φ (d + 1 + 1) a mL_law_ 23 [some (.retAddr (999)), some (.ref (1)), some (.ref (79)), some (.ref (116)), some (.int (x4 + 6)), none, none, none] [] u Q X0) : vL_law_17 Φ N xs (d + 1) a x4 w Q X0 := by
  unfold vL_law_17
  refine ⟨b1, b2, eL_delay (s_mono h (s_I_of (fun v u h => ⟨v, rfl, ?_⟩)) (fun E u h => ?_))⟩
  · refine ⟨0, rfl, b1, b2, s_mono h (s_I_of (fun v2 u2 h => ⟨v2, rfl, ?_⟩)) (fun _ _ h => h)⟩
    obtain ⟨h1, h2, h3⟩ := h
    apply eX12_thrown
    unfold vX12_thrown_0
    exact ⟨_, rfl, fun _ => ⟨fun hn => absurd rfl hn, fun _ => ⟨fun _ => loop u2 h3, fun hc => absurd ((lg_cmp_eq _ _).mpr h2) hc⟩⟩, fun hn => absurd h1 hn⟩
  · obtain ⟨k, hk, h⟩ := h
    rcases hk with ⟨rfl, rfl⟩ | ⟨rfl, rfl⟩
    · left
      refine ⟨rfl, ⟨1, rfl, b1, b2, s_mono h (s_I_of (fun v2 u2 h => ⟨v2, rfl, ?_⟩)) (fun _ _ h => h)⟩⟩
      obtain ⟨h1, h3⟩ := h
      apply eX12_thrown
      unfold vX12_thrown_0
      exact ⟨_, rfl, fun _ => ⟨fun _ => loop u2 h3, fun hn => absurd (show ¬ (1 : Int32) = 0 by decide) hn⟩, fun hn => absurd h1 hn⟩
    · right
      refine ⟨rfl, ⟨2, rfl, b1, b2, s_mono h (s_I_of (fun v2 u2 h => ⟨v2, rfl, ?_⟩)) (fun _ _ h => h)⟩⟩
      obtain ⟨h1, h3⟩ := h
      apply eX12_thrown
      unfold vX12_thrown_0
      exact ⟨_, rfl, fun _ => ⟨fun _ => loop u2 h3, fun hn => absurd (show ¬ (2 : Int32) = 0 by decide) hn⟩, fun hn => absurd h1 hn⟩
theorem lc_18 {Φ : p_Cc} {N : Nat} {xs : Nat → Int32} {d a : Nat} {x4 : Int32} {w : q_Sm} {Q : s_Po} {Inv : q_Sm → Prop}  (h : ag_D Inv (d + 1) mX11_next mX12_next w []) (loop : ∀ u, Inv u → ps_Ex Φ (d + 1 + 1) a mL_law_ 23 [some (.retAddr (999)), some (.ref (1)), some (.ref (79)), some (.ref (116)), some (.int (x4 + 6)), none, none, none] [] u Q X0) : vL_law_18 Φ N xs (d + 1) a x4 w Q X0 := by
  unfold vL_law_18
  exact s_mono h (s_I_of (fun v u h => ⟨v, rfl, s_mono h (s_I_of (fun v2 u2 h => ⟨v2, rfl, fun _ => loop u2 h.2, fun hn => absurd h.1 hn⟩)) (fun _ _ h => h)⟩)) (fun _ _ h => h)
theorem lc_19 {Φ : p_Cc} {N : Nat} {xs : Nat → Int32} {d a : Nat} {x4 : Int32} {w : q_Sm} {Q : s_Po} {Inv : q_Sm → Prop}  (h : ag_D Inv (d + 1) mX11_matched mX12_matched w []) (loop : ∀ u, Inv u → ps_Ex Φ (d + 1 + 1) a mL_law_ 23 [some (.retAddr (999)), some (.ref (1)), some (.ref (79)), some (.ref (116)), some (.int (x4 + 6)), none, none, none] [] u Q X0) : vL_law_19 Φ N xs (d + 1) a x4 w Q X0 := by
  unfold vL_law_19
  exact s_mono h (s_I_of (fun v u h => ⟨v, rfl, s_mono h (s_I_of (fun v2 u2 h => ⟨v2, rfl, fun _ => loop u2 h.2, fun hn => absurd h.1 hn⟩)) (fun _ _ h => h)⟩)) (fun _ _ h => h)
theorem lc_20 {Φ : p_Cc} {N : Nat} {xs : Nat → Int32} {d a : Nat} {x4 : Int32} {w : q_Sm} {Q : s_Po} {Inv : q_Sm → Prop} (b1 : vp_in (x4 + 1) N) (h : ag_W Inv d 1 er_N mX11_weds mX12_weds w [.int (xs (Int32.toNatClampNeg (x4 + 1)))]) (loop : ∀ u, Inv u → ps_Ex Φ (d + 1 + 1) a mL_law_ 23 [some (.retAddr (999)), some (.ref (1)), some (.ref (79)), some (.ref (116)), some (.int (x4 + 6)), none, none, none] [] u Q X0) : vL_law_20 Φ N xs (d + 1) a x4 w Q X0 := by
  unfold vL_law_20
  refine ⟨b1, eL_weds (s_mono h (s_I_of (fun v u h => ⟨v, rfl, ?_⟩)) (fun E u h => ?_))⟩
  · refine ⟨0, rfl, b1, s_mono h (s_I_of (fun v2 u2 h => ⟨v2, rfl, ?_⟩)) (fun _ _ h => h)⟩
    obtain ⟨h1, h2, h3⟩ := h
    apply eX12_thrown
    unfold vX12_thrown_0
    exact ⟨_, rfl, fun _ => ⟨fun hn => absurd rfl hn, fun _ => ⟨fun _ => loop u2 h3, fun hc => absurd ((lg_cmp_eq _ _).mpr h2) hc⟩⟩, fun hn => absurd h1 hn⟩
  · obtain ⟨k, ⟨rfl, rfl⟩, h⟩ := h
    refine ⟨rfl, ⟨1, rfl, b1, s_mono h (s_I_of (fun v2 u2 h => ⟨v2, rfl, ?_⟩)) (fun _ _ h => h)⟩⟩
    obtain ⟨h1, h3⟩ := h
    apply eX12_thrown
    unfold vX12_thrown_0
    exact ⟨_, rfl, fun _ => ⟨fun _ => loop u2 h3, fun hn => absurd (show ¬ (1 : Int32) = 0 by decide) hn⟩, fun hn => absurd h1 hn⟩
theorem lc_21 {Φ : p_Cc} {N : Nat} {xs : Nat → Int32} {d a : Nat} {x4 : Int32} {w : q_Sm} {Q : s_Po} {Inv : q_Sm → Prop} (b1 : vp_in (x4 + 1) N) (h : ag_W Inv d 1 er_N mX11_choices mX12_choices w [.int (xs (Int32.toNatClampNeg (x4 + 1)))]) (loop : ∀ u, Inv u → ps_Ex Φ (d + 1 + 1) a mL_law_ 23 [some (.retAddr (999)), some (.ref (1)), some (.ref (79)), some (.ref (116)), some (.int (x4 + 6)), none, none, none] [] u Q X0) : vL_law_21 Φ N xs (d + 1) a x4 w Q X0 := by
  unfold vL_law_21
  refine ⟨b1, eL_choices (s_mono h (s_I_of (fun v u h => ⟨v, rfl, ?_⟩)) (fun E u h => ?_))⟩
  · refine ⟨0, rfl, b1, s_mono h (s_I_of (fun v2 u2 h => ⟨v2, rfl, ?_⟩)) (fun _ _ h => h)⟩
    obtain ⟨h1, h2, h3⟩ := h
    apply eX12_thrown
    unfold vX12_thrown_0
    exact ⟨_, rfl, fun _ => ⟨fun hn => absurd rfl hn, fun _ => ⟨fun _ => loop u2 h3, fun hc => absurd ((lg_cmp_eq _ _).mpr h2) hc⟩⟩, fun hn => absurd h1 hn⟩
  · obtain ⟨k, ⟨rfl, rfl⟩, h⟩ := h
    refine ⟨rfl, ⟨1, rfl, b1, s_mono h (s_I_of (fun v2 u2 h => ⟨v2, rfl, ?_⟩)) (fun _ _ h => h)⟩⟩
    obtain ⟨h1, h3⟩ := h
    apply eX12_thrown
    unfold vX12_thrown_0
    exact ⟨_, rfl, fun _ => ⟨fun _ => loop u2 h3, fun hn => absurd (show ¬ (1 : Int32) = 0 by decide) hn⟩, fun hn => absurd h1 hn⟩
theorem lc_22 {Φ : p_Cc} {N : Nat} {xs : Nat → Int32} {d a : Nat} {x4 : Int32} {w : q_Sm} {Q : s_Po} {Inv : q_Sm → Prop} (b1 : vp_in (x4 + 1) N) (h : ag_Z Inv d 1 er_N mX11_sees mX12_sees w [.int (xs (Int32.toNatClampNeg (x4 + 1)))]) (loop : ∀ u, Inv u → ps_Ex Φ (d + 1 + 1) a mL_law_ 23 [some (.retAddr (999)), some (.ref (1)), some (.ref (79)), some (.ref (116)), some (.int (x4 + 6)), none, none, none] [] u Q X0) : vL_law_22 Φ N xs (d + 1) a x4 w Q X0 := by
  unfold vL_law_22
  refine ⟨b1, eL_sees (s_mono h (s_I_of (fun v u h => ⟨v, rfl, ?_⟩)) (fun E u h => ?_))⟩
  · refine ⟨fun hv => ?_, fun hv => ?_⟩
    · rw [if_pos hv] at h
      refine ⟨0, rfl, b1, s_mono h (s_I_of (fun v2 u2 h => ⟨v2, rfl, ?_⟩)) (fun _ _ h => h)⟩
      obtain ⟨h1, h2, h3⟩ := h
      apply eX12_thrown
      unfold vX12_thrown_0
      refine ⟨_, rfl, fun _ => ⟨fun hn => absurd rfl hn, fun _ => ⟨fun hz => ⟨fun _ => loop u2 h3, fun hc => absurd ((lg_cmp_eq _ _).mpr ?_) hc⟩, fun hz => ⟨fun _ => loop u2 h3, fun hc => absurd ((lg_cmp_eq _ _).mpr ?_) hc⟩⟩⟩, fun hn => absurd h1 hn⟩
      · rw [if_pos hz] at h2; exact h2
      · rw [if_neg hz] at h2; exact h2
    · rw [if_neg hv] at h
      refine ⟨0, rfl, b1, s_mono h (s_I_of (fun v2 u2 h => ⟨v2, rfl, ?_⟩)) (fun _ _ h => h)⟩
      obtain ⟨h1, h2, h3⟩ := h
      apply eX12_thrown
      unfold vX12_thrown_0
      refine ⟨_, rfl, fun _ => ⟨fun hn => absurd rfl hn, fun _ => ⟨fun hz => ⟨fun _ => loop u2 h3, fun hc => absurd ((lg_cmp_eq _ _).mpr ?_) hc⟩, fun hz => ⟨fun _ => loop u2 h3, fun hc => absurd ((lg_cmp_eq _ _).mpr ?_) hc⟩⟩⟩, fun hn => absurd h1 hn⟩
      · rw [if_pos hz] at h2; exact h2
      · rw [if_neg hz] at h2; exact h2
  · obtain ⟨k, ⟨rfl, rfl⟩, h⟩ := h
    refine ⟨rfl, ⟨1, rfl, b1, s_mono h (s_I_of (fun v2 u2 h => ⟨v2, rfl, ?_⟩)) (fun _ _ h => h)⟩⟩
    obtain ⟨h1, h3⟩ := h
    apply eX12_thrown
    unfold vX12_thrown_0
    exact ⟨_, rfl, fun _ => ⟨fun _ => loop u2 h3, fun hn => absurd (show ¬ (1 : Int32) = 0 by decide) hn⟩, fun hn => absurd h1 hn⟩
theorem lc_23 {Φ : p_Cc} {N : Nat} {xs : Nat → Int32} {d a : Nat} {x4 : Int32} {w : q_Sm} {Q : s_Po} {Inv : q_Sm → Prop} (b1 : vp_in (x4 + 1) N) (h : ag_W Inv d 1 er_I mX11_eyes mX12_eyes w [.int (xs (Int32.toNatClampNeg (x4 + 1)))]) (loop : ∀ u, Inv u → ps_Ex Φ (d + 1 + 1) a mL_law_ 23 [some (.retAddr (999)), some (.ref (1)), some (.ref (79)), some (.ref (116)), some (.int (x4 + 6)), none, none, none] [] u Q X0) : vL_law_23 Φ N xs (d + 1) a x4 w Q X0 := by
  unfold vL_law_23
  refine ⟨b1, eL_eyes (s_mono h (s_I_of (fun v u h => ⟨v, rfl, ?_⟩)) (fun E u h => ?_))⟩
  · refine ⟨0, rfl, b1, s_mono h (s_I_of (fun v2 u2 h => ⟨v2, rfl, ?_⟩)) (fun _ _ h => h)⟩
    obtain ⟨h1, h2, h3⟩ := h
    apply eX12_thrown
    unfold vX12_thrown_0
    exact ⟨_, rfl, fun _ => ⟨fun hn => absurd rfl hn, fun _ => ⟨fun _ => loop u2 h3, fun hc => absurd ((lg_cmp_eq _ _).mpr h2) hc⟩⟩, fun hn => absurd h1 hn⟩
  · obtain ⟨k, ⟨rfl, rfl⟩, h⟩ := h
    refine ⟨rfl, ⟨1, rfl, b1, s_mono h (s_I_of (fun v2 u2 h => ⟨v2, rfl, ?_⟩)) (fun _ _ h => h)⟩⟩
    obtain ⟨h1, h3⟩ := h
    apply eX12_thrown
    unfold vX12_thrown_0
    exact ⟨_, rfl, fun _ => ⟨fun _ => loop u2 h3, fun hn => absurd (show ¬ (1 : Int32) = 0 by decide) hn⟩, fun hn => absurd h1 hn⟩
theorem lc_24 {Φ : p_Cc} {N : Nat} {xs : Nat → Int32} {d a : Nat} {x4 : Int32} {w : q_Sm} {Q : s_Po} {Inv : q_Sm → Prop} (b1 : vp_in (x4 + 1) N) (b2 : vp_in (x4 + 2) N) (h : ag_W Inv d 1 er_I mX11_chairs mX12_chairs w [.int (xs (Int32.toNatClampNeg (x4 + 1))), .int (xs (Int32.toNatClampNeg (x4 + 2)))]) (loop : ∀ u, Inv u → ps_Ex Φ (d + 1 + 1) a mL_law_ 23 [some (.retAddr (999)), some (.ref (1)), some (.ref (79)), some (.ref (116)), some (.int (x4 + 6)), none, none, none] [] u Q X0) : vL_law_24 Φ N xs (d + 1) a x4 w Q X0 := by
  unfold vL_law_24
  refine ⟨b1, b2, eL_chairs (s_mono h (s_I_of (fun v u h => ⟨v, rfl, ?_⟩)) (fun E u h => ?_))⟩
  · refine ⟨0, rfl, b1, b2, s_mono h (s_I_of (fun v2 u2 h => ⟨v2, rfl, ?_⟩)) (fun _ _ h => h)⟩
    obtain ⟨h1, h2, h3⟩ := h
    apply eX12_thrown
    unfold vX12_thrown_0
    exact ⟨_, rfl, fun _ => ⟨fun hn => absurd rfl hn, fun _ => ⟨fun _ => loop u2 h3, fun hc => absurd ((lg_cmp_eq _ _).mpr h2) hc⟩⟩, fun hn => absurd h1 hn⟩
  · obtain ⟨k, ⟨rfl, rfl⟩, h⟩ := h
    refine ⟨rfl, ⟨1, rfl, b1, b2, s_mono h (s_I_of (fun v2 u2 h => ⟨v2, rfl, ?_⟩)) (fun _ _ h => h)⟩⟩
    obtain ⟨h1, h3⟩ := h
    apply eX12_thrown
    unfold vX12_thrown_0
    exact ⟨_, rfl, fun _ => ⟨fun _ => loop u2 h3, fun hn => absurd (show ¬ (1 : Int32) = 0 by decide) hn⟩, fun hn => absurd h1 hn⟩
theorem lc_25 {Φ : p_Cc} {N : Nat} {xs : Nat → Int32} {d a : Nat} {x4 : Int32} {w : q_Sm} {Q : s_Po} {Inv : q_Sm → Prop} (b1 : vp_in (x4 + 1) N) (b2 : vp_in (x4 + 2) N) (b3 : vp_in (x4 + 3) N) (b4 : vp_in (x4 + 4) N) (h : ag_W Inv d 2 er_B mX11_gets mX12_gets w [.int (xs (Int32.toNatClampNeg (x4 + 1))), .int (xs (Int32.toNatClampNeg (x4 + 2))), .int (xs (Int32.toNatClampNeg (x4 + 3))), .int (xs (Int32.toNatClampNeg (x4 + 4)))]) (loop : ∀ u, Inv u → ps_Ex Φ (d + 1 + 1) a mL_law_ 23 [some (.retAddr (999)), some (.ref (1)), some (.ref (79)), some (.ref (116)), some (.int (x4 + 6)), none, none, none] [] u Q X0) : vL_law_25 Φ N xs (d + 1) a x4 w Q X0 := by
  unfold vL_law_25
  refine ⟨b1, b2, b3, b4, eL_gets (s_mono h (s_I_of (fun v u h => ⟨v, rfl, ?_⟩)) (fun E u h => ?_))⟩
  · refine ⟨0, rfl, b1, b2, b3, b4, s_mono h (s_I_of (fun v2 u2 h => ⟨v2, rfl, ?_⟩)) (fun _ _ h => h)⟩
    obtain ⟨h1, h2, h3⟩ := h
    apply eX12_thrown
    unfold vX12_thrown_0
    exact ⟨_, rfl, fun _ => ⟨fun hn => absurd rfl hn, fun _ => ⟨fun _ => loop u2 h3, fun hc => absurd ((lg_cmp_eq _ _).mpr h2) hc⟩⟩, fun hn => absurd h1 hn⟩
  · obtain ⟨k, hk, h⟩ := h
    rcases hk with ⟨rfl, rfl⟩ | ⟨rfl, rfl⟩
    · left
      refine ⟨rfl, ⟨1, rfl, b1, b2, b3, b4, s_mono h (s_I_of (fun v2 u2 h => ⟨v2, rfl, ?_⟩)) (fun _ _ h => h)⟩⟩
      obtain ⟨h1, h3⟩ := h
      apply eX12_thrown
      unfold vX12_thrown_0
      exact ⟨_, rfl, fun _ => ⟨fun _ => loop u2 h3, fun hn => absurd (show ¬ (1 : Int32) = 0 by decide) hn⟩, fun hn => absurd h1 hn⟩
    · right
      refine ⟨rfl, ⟨2, rfl, b1, b2, b3, b4, s_mono h (s_I_of (fun v2 u2 h => ⟨v2, rfl, ?_⟩)) (fun _ _ h => h)⟩⟩
      obtain ⟨h1, h3⟩ := h
      apply eX12_thrown
      unfold vX12_thrown_0
      exact ⟨_, rfl, fun _ => ⟨fun _ => loop u2 h3, fun hn => absurd (show ¬ (2 : Int32) = 0 by decide) hn⟩, fun hn => absurd h1 hn⟩
theorem lc_26 {Φ : p_Cc} {N : Nat} {xs : Nat → Int32} {d a : Nat} {x4 : Int32} {w : q_Sm} {Q : s_Po} {Inv : q_Sm → Prop} (b1 : vp_in (x4 + 1) N) (b2 : vp_in (x4 + 2) N) (h : ag_W Inv d 2 er_N mX11_owes mX12_owes w [.int (xs (Int32.toNatClampNeg (x4 + 1))), .int (xs (Int32.toNatClampNeg (x4 + 2)))]) (loop : ∀ u, Inv u → ps_Ex Φ (d + 1 + 1) a mL_law_ 23 [some (.retAddr (999)), some (.ref (1)), some (.ref (79)), some (.ref (116)), some (.int (x4 + 6)), none, none, none] [] u Q X0) : vL_law_26 Φ N xs (d + 1) a x4 w Q X0 := by
  unfold vL_law_26
  refine ⟨b1, b2, eL_owes (s_mono h (s_I_of (fun v u h => ⟨v, rfl, ?_⟩)) (fun E u h => ?_))⟩
  · refine ⟨0, rfl, b1, b2, s_mono h (s_I_of (fun v2 u2 h => ⟨v2, rfl, ?_⟩)) (fun _ _ h => h)⟩
    obtain ⟨h1, h2, h3⟩ := h
    apply eX12_thrown
    unfold vX12_thrown_0
    exact ⟨_, rfl, fun _ => ⟨fun hn => absurd rfl hn, fun _ => ⟨fun _ => loop u2 h3, fun hc => absurd ((lg_cmp_eq _ _).mpr h2) hc⟩⟩, fun hn => absurd h1 hn⟩
  · obtain ⟨k, ⟨rfl, rfl⟩, h⟩ := h
    refine ⟨rfl, ⟨1, rfl, b1, b2, s_mono h (s_I_of (fun v2 u2 h => ⟨v2, rfl, ?_⟩)) (fun _ _ h => h)⟩⟩
    obtain ⟨h1, h3⟩ := h
    apply eX12_thrown
    unfold vX12_thrown_0
    exact ⟨_, rfl, fun _ => ⟨fun _ => loop u2 h3, fun hn => absurd (show ¬ (1 : Int32) = 0 by decide) hn⟩, fun hn => absurd h1 hn⟩
theorem lc_27 {Φ : p_Cc} {N : Nat} {xs : Nat → Int32} {d a : Nat} {x4 : Int32} {w : q_Sm} {Q : s_Po} {Inv : q_Sm → Prop} (b1 : vp_in (x4 + 1) N) (h : ag_W Inv d 1 er_N mX11_net mX12_net w [.int (xs (Int32.toNatClampNeg (x4 + 1)))]) (loop : ∀ u, Inv u → ps_Ex Φ (d + 1 + 1) a mL_law_ 23 [some (.retAddr (999)), some (.ref (1)), some (.ref (79)), some (.ref (116)), some (.int (x4 + 6)), none, none, none] [] u Q X0) : vL_law_27 Φ N xs (d + 1) a x4 w Q X0 := by
  unfold vL_law_27
  refine ⟨b1, eL_net (s_mono h (s_I_of (fun v u h => ⟨v, rfl, ?_⟩)) (fun E u h => ?_))⟩
  · refine ⟨0, rfl, b1, s_mono h (s_I_of (fun v2 u2 h => ⟨v2, rfl, ?_⟩)) (fun _ _ h => h)⟩
    obtain ⟨h1, h2, h3⟩ := h
    apply eX12_thrown
    unfold vX12_thrown_0
    exact ⟨_, rfl, fun _ => ⟨fun hn => absurd rfl hn, fun _ => ⟨fun _ => loop u2 h3, fun hc => absurd ((lg_cmp_eq _ _).mpr h2) hc⟩⟩, fun hn => absurd h1 hn⟩
  · obtain ⟨k, ⟨rfl, rfl⟩, h⟩ := h
    refine ⟨rfl, ⟨1, rfl, b1, s_mono h (s_I_of (fun v2 u2 h => ⟨v2, rfl, ?_⟩)) (fun _ _ h => h)⟩⟩
    obtain ⟨h1, h3⟩ := h
    apply eX12_thrown
    unfold vX12_thrown_0
    exact ⟨_, rfl, fun _ => ⟨fun _ => loop u2 h3, fun hn => absurd (show ¬ (1 : Int32) = 0 by decide) hn⟩, fun hn => absurd h1 hn⟩
theorem lc_28 {Φ : p_Cc} {N : Nat} {xs : Nat → Int32} {d a : Nat} {x4 : Int32} {w : q_Sm} {Q : s_Po} {Inv : q_Sm → Prop} (b1 : vp_in (x4 + 1) N) (h : ag_W Inv d 1 er_I mX11_struck mX12_struck w [.int (xs (Int32.toNatClampNeg (x4 + 1)))]) (loop : ∀ u, Inv u → ps_Ex Φ (d + 1 + 1) a mL_law_ 23 [some (.retAddr (999)), some (.ref (1)), some (.ref (79)), some (.ref (116)), some (.int (x4 + 6)), none, none, none] [] u Q X0) : vL_law_28 Φ N xs (d + 1) a x4 w Q X0 := by
  unfold vL_law_28
  refine ⟨b1, eL_struck (s_mono h (s_I_of (fun v u h => ⟨v, rfl, ?_⟩)) (fun E u h => ?_))⟩
  · refine ⟨0, rfl, b1, s_mono h (s_I_of (fun v2 u2 h => ⟨v2, rfl, ?_⟩)) (fun _ _ h => h)⟩
    obtain ⟨h1, h2, h3⟩ := h
    apply eX12_thrown
    unfold vX12_thrown_0
    exact ⟨_, rfl, fun _ => ⟨fun hn => absurd rfl hn, fun _ => ⟨fun _ => loop u2 h3, fun hc => absurd ((lg_cmp_eq _ _).mpr h2) hc⟩⟩, fun hn => absurd h1 hn⟩
  · obtain ⟨k, ⟨rfl, rfl⟩, h⟩ := h
    refine ⟨rfl, ⟨1, rfl, b1, s_mono h (s_I_of (fun v2 u2 h => ⟨v2, rfl, ?_⟩)) (fun _ _ h => h)⟩⟩
    obtain ⟨h1, h3⟩ := h
    apply eX12_thrown
    unfold vX12_thrown_0
    exact ⟨_, rfl, fun _ => ⟨fun _ => loop u2 h3, fun hn => absurd (show ¬ (1 : Int32) = 0 by decide) hn⟩, fun hn => absurd h1 hn⟩
theorem lc_29 {Φ : p_Cc} {N : Nat} {xs : Nat → Int32} {d a : Nat} {x4 : Int32} {w : q_Sm} {Q : s_Po} {Inv : q_Sm → Prop}  (h : ag_D Inv (d + 1) mX11_moved mX12_moved w []) (loop : ∀ u, Inv u → ps_Ex Φ (d + 1 + 1) a mL_law_ 23 [some (.retAddr (999)), some (.ref (1)), some (.ref (79)), some (.ref (116)), some (.int (x4 + 6)), none, none, none] [] u Q X0) : vL_law_29 Φ N xs (d + 1) a x4 w Q X0 := by
  unfold vL_law_29
  exact s_mono h (s_I_of (fun v u h => ⟨v, rfl, s_mono h (s_I_of (fun v2 u2 h => ⟨v2, rfl, fun _ => loop u2 h.2, fun hn => absurd h.1 hn⟩)) (fun _ _ h => h)⟩)) (fun _ _ h => h)
theorem lc_30 {Φ : p_Cc} {N : Nat} {xs : Nat → Int32} {d a : Nat} {x4 : Int32} {w : q_Sm} {Q : s_Po} {Inv : q_Sm → Prop} (b1 : vp_in (x4 + 1) N) (h : ag_W Inv d 1 er_I mX11_look mX12_look w [.int (xs (Int32.toNatClampNeg (x4 + 1)))]) (loop : ∀ u, Inv u → ps_Ex Φ (d + 1 + 1) a mL_law_ 23 [some (.retAddr (999)), some (.ref (1)), some (.ref (79)), some (.ref (116)), some (.int (x4 + 6)), none, none, none] [] u Q X0) : vL_law_30 Φ N xs (d + 1) a x4 w Q X0 := by
  unfold vL_law_30
  refine ⟨b1, eL_look (s_mono h (s_I_of (fun v u h => ⟨v, rfl, ?_⟩)) (fun E u h => ?_))⟩
  · refine ⟨0, rfl, b1, s_mono h (s_I_of (fun v2 u2 h => ⟨v2, rfl, ?_⟩)) (fun _ _ h => h)⟩
    obtain ⟨h1, h2, h3⟩ := h
    apply eX12_thrown
    unfold vX12_thrown_0
    exact ⟨_, rfl, fun _ => ⟨fun hn => absurd rfl hn, fun _ => ⟨fun _ => loop u2 h3, fun hc => absurd ((lg_cmp_eq _ _).mpr h2) hc⟩⟩, fun hn => absurd h1 hn⟩
  · obtain ⟨k, ⟨rfl, rfl⟩, h⟩ := h
    refine ⟨rfl, ⟨1, rfl, b1, s_mono h (s_I_of (fun v2 u2 h => ⟨v2, rfl, ?_⟩)) (fun _ _ h => h)⟩⟩
    obtain ⟨h1, h3⟩ := h
    apply eX12_thrown
    unfold vX12_thrown_0
    exact ⟨_, rfl, fun _ => ⟨fun _ => loop u2 h3, fun hn => absurd (show ¬ (1 : Int32) = 0 by decide) hn⟩, fun hn => absurd h1 hn⟩
theorem lc_31 {Φ : p_Cc} {N : Nat} {xs : Nat → Int32} {d a : Nat} {x4 : Int32} {w : q_Sm} {Q : s_Po} {Inv : q_Sm → Prop} (b1 : vp_in (x4 + 1) N) (b2 : vp_in (x4 + 2) N) (b3 : vp_in (x4 + 3) N) (b4 : vp_in (x4 + 4) N) (b5 : vp_in (x4 + 5) N) (h : ag_J Inv d 1 er_I mX11_settle mX12_settle w [.int (xs (Int32.toNatClampNeg (x4 + 1))), .int (xs (Int32.toNatClampNeg (x4 + 2))), .int (xs (Int32.toNatClampNeg (x4 + 3))), .int (xs (Int32.toNatClampNeg (x4 + 4))), .int (xs (Int32.toNatClampNeg (x4 + 5)))]) (loop : ∀ u, Inv u → ps_Ex Φ (d + 1 + 1) a mL_law_ 23 [some (.retAddr (999)), some (.ref (1)), some (.ref (79)), some (.ref (116)), some (.int (x4 + 6)), none, none, none] [] u Q X0) : vL_law_31 Φ N xs (d + 1) a x4 w Q X0 := by
  unfold vL_law_31
  refine ⟨b1, b2, b3, b4, b5, eL_settle (s_mono h (s_J_of (fun v u h => ⟨v, rfl, ?_⟩)) (fun E u h => ?_))⟩
  · refine ⟨0, rfl, b1, b2, b3, b4, b5, s_mono h (s_J_of (fun v2 u2 h => ⟨v2, rfl, ?_⟩)) (fun _ _ h => h)⟩
    obtain ⟨h1, h2, h3⟩ := h
    apply eX12_thrown
    unfold vX12_thrown_0
    exact ⟨_, rfl, fun _ => ⟨fun hn => absurd rfl hn, fun _ => ⟨fun _ => loop u2 h3, fun hc => absurd ((lg_cmp_eq _ _).mpr h2) hc⟩⟩, fun hn => absurd h1 hn⟩
  · obtain ⟨k, ⟨rfl, rfl⟩, h⟩ := h
    refine ⟨rfl, ⟨1, rfl, b1, b2, b3, b4, b5, s_mono h (s_J_of (fun v2 u2 h => ⟨v2, rfl, ?_⟩)) (fun _ _ h => h)⟩⟩
    obtain ⟨h1, h3⟩ := h
    apply eX12_thrown
    unfold vX12_thrown_0
    exact ⟨_, rfl, fun _ => ⟨fun _ => loop u2 h3, fun hn => absurd (show ¬ (1 : Int32) = 0 by decide) hn⟩, fun hn => absurd h1 hn⟩
theorem lc_32 {Φ : p_Cc} {N : Nat} {xs : Nat → Int32} {d a : Nat} {x4 : Int32} {w : q_Sm} {Q : s_Po} {Inv : q_Sm → Prop} (b1 : vp_in (x4 + 1) N) (b2 : vp_in (x4 + 2) N) (b3 : vp_in (x4 + 3) N) (b4 : vp_in (x4 + 4) N) (h : ag_Z Inv d 1 er_I mX11_now mX12_now w [.int (xs (Int32.toNatClampNeg (x4 + 1))), .int (xs (Int32.toNatClampNeg (x4 + 2))), .int (xs (Int32.toNatClampNeg (x4 + 3))), .int (xs (Int32.toNatClampNeg (x4 + 4)))]) (loop : ∀ u, Inv u → ps_Ex Φ (d + 1 + 1) a mL_law_ 23 [some (.retAddr (999)), some (.ref (1)), some (.ref (79)), some (.ref (116)), some (.int (x4 + 6)), none, none, none] [] u Q X0) : vL_law_32 Φ N xs (d + 1) a x4 w Q X0 := by
  unfold vL_law_32
  refine ⟨b1, b2, b3, b4, eL_now (s_mono h (s_I_of (fun v u h => ⟨v, rfl, ?_⟩)) (fun E u h => ?_))⟩
  · refine ⟨fun hv => ?_, fun hv => ?_⟩
    · rw [if_pos hv] at h
      refine ⟨0, rfl, b1, b2, b3, b4, s_mono h (s_I_of (fun v2 u2 h => ⟨v2, rfl, ?_⟩)) (fun _ _ h => h)⟩
      obtain ⟨h1, h2, h3⟩ := h
      apply eX12_thrown
      unfold vX12_thrown_0
      refine ⟨_, rfl, fun _ => ⟨fun hn => absurd rfl hn, fun _ => ⟨fun hz => ⟨fun _ => loop u2 h3, fun hc => absurd ((lg_cmp_eq _ _).mpr ?_) hc⟩, fun hz => ⟨fun _ => loop u2 h3, fun hc => absurd ((lg_cmp_eq _ _).mpr ?_) hc⟩⟩⟩, fun hn => absurd h1 hn⟩
      · rw [if_pos hz] at h2; exact h2
      · rw [if_neg hz] at h2; exact h2
    · rw [if_neg hv] at h
      refine ⟨0, rfl, b1, b2, b3, b4, s_mono h (s_I_of (fun v2 u2 h => ⟨v2, rfl, ?_⟩)) (fun _ _ h => h)⟩
      obtain ⟨h1, h2, h3⟩ := h
      apply eX12_thrown
      unfold vX12_thrown_0
      refine ⟨_, rfl, fun _ => ⟨fun hn => absurd rfl hn, fun _ => ⟨fun hz => ⟨fun _ => loop u2 h3, fun hc => absurd ((lg_cmp_eq _ _).mpr ?_) hc⟩, fun hz => ⟨fun _ => loop u2 h3, fun hc => absurd ((lg_cmp_eq _ _).mpr ?_) hc⟩⟩⟩, fun hn => absurd h1 hn⟩
      · rw [if_pos hz] at h2; exact h2
      · rw [if_neg hz] at h2; exact h2
  · obtain ⟨k, ⟨rfl, rfl⟩, h⟩ := h
    refine ⟨rfl, ⟨1, rfl, b1, b2, b3, b4, s_mono h (s_I_of (fun v2 u2 h => ⟨v2, rfl, ?_⟩)) (fun _ _ h => h)⟩⟩
    obtain ⟨h1, h3⟩ := h
    apply eX12_thrown
    unfold vX12_thrown_0
    exact ⟨_, rfl, fun _ => ⟨fun _ => loop u2 h3, fun hn => absurd (show ¬ (1 : Int32) = 0 by decide) hn⟩, fun hn => absurd h1 hn⟩
theorem lc_33 {Φ : p_Cc} {N : Nat} {xs : Nat → Int32} {d a : Nat} {x4 : Int32} {w : q_Sm} {Q : s_Po} {Inv : q_Sm → Prop} (b1 : vp_in (x4 + 1) N) (b2 : vp_in (x4 + 2) N) (b3 : vp_in (x4 + 3) N) (b4 : vp_in (x4 + 4) N) (h : ag_W Inv d 2 er_I mX11_bids mX12_bids w [.int (xs (Int32.toNatClampNeg (x4 + 1))), .int (xs (Int32.toNatClampNeg (x4 + 2))), .int (xs (Int32.toNatClampNeg (x4 + 3))), .int (xs (Int32.toNatClampNeg (x4 + 4)))]) (loop : ∀ u, Inv u → ps_Ex Φ (d + 1 + 1) a mL_law_ 23 [some (.retAddr (999)), some (.ref (1)), some (.ref (79)), some (.ref (116)), some (.int (x4 + 6)), none, none, none] [] u Q X0) : vL_law_33 Φ N xs (d + 1) a x4 w Q X0 := by
  unfold vL_law_33
  refine ⟨b1, b2, b3, b4, eL_bids (s_mono h (s_I_of (fun v u h => ⟨v, rfl, ?_⟩)) (fun E u h => ?_))⟩
  · refine ⟨0, rfl, b1, b2, b3, b4, s_mono h (s_I_of (fun v2 u2 h => ⟨v2, rfl, ?_⟩)) (fun _ _ h => h)⟩
    obtain ⟨h1, h2, h3⟩ := h
    apply eX12_thrown
    unfold vX12_thrown_0
    exact ⟨_, rfl, fun _ => ⟨fun hn => absurd rfl hn, fun _ => ⟨fun _ => loop u2 h3, fun hc => absurd ((lg_cmp_eq _ _).mpr h2) hc⟩⟩, fun hn => absurd h1 hn⟩
  · obtain ⟨k, ⟨rfl, rfl⟩, h⟩ := h
    refine ⟨rfl, ⟨1, rfl, b1, b2, b3, b4, s_mono h (s_I_of (fun v2 u2 h => ⟨v2, rfl, ?_⟩)) (fun _ _ h => h)⟩⟩
    obtain ⟨h1, h3⟩ := h
    apply eX12_thrown
    unfold vX12_thrown_0
    exact ⟨_, rfl, fun _ => ⟨fun _ => loop u2 h3, fun hn => absurd (show ¬ (1 : Int32) = 0 by decide) hn⟩, fun hn => absurd h1 hn⟩
theorem lc_34 {Φ : p_Cc} {N : Nat} {xs : Nat → Int32} {d a : Nat} {x4 : Int32} {w : q_Sm} {Q : s_Po} {Inv : q_Sm → Prop} (b1 : vp_in (x4 + 1) N) (b2 : vp_in (x4 + 2) N) (b3 : vp_in (x4 + 3) N) (b4 : vp_in (x4 + 4) N) (h : ag_W Inv d 1 er_I mX11_has mX12_has w [.int (xs (Int32.toNatClampNeg (x4 + 1))), .int (xs (Int32.toNatClampNeg (x4 + 2))), .int (xs (Int32.toNatClampNeg (x4 + 3))), .int (xs (Int32.toNatClampNeg (x4 + 4)))]) (loop : ∀ u, Inv u → ps_Ex Φ (d + 1 + 1) a mL_law_ 23 [some (.retAddr (999)), some (.ref (1)), some (.ref (79)), some (.ref (116)), some (.int (x4 + 6)), none, none, none] [] u Q X0) : vL_law_34 Φ N xs (d + 1) a x4 w Q X0 := by
  unfold vL_law_34
  refine ⟨b1, b2, b3, b4, eL_has (s_mono h (s_I_of (fun v u h => ⟨v, rfl, ?_⟩)) (fun E u h => ?_))⟩
  · refine ⟨0, rfl, b1, b2, b3, b4, s_mono h (s_I_of (fun v2 u2 h => ⟨v2, rfl, ?_⟩)) (fun _ _ h => h)⟩
    obtain ⟨h1, h2, h3⟩ := h
    apply eX12_thrown
    unfold vX12_thrown_0
    exact ⟨_, rfl, fun _ => ⟨fun hn => absurd rfl hn, fun _ => ⟨fun _ => loop u2 h3, fun hc => absurd ((lg_cmp_eq _ _).mpr h2) hc⟩⟩, fun hn => absurd h1 hn⟩
  · obtain ⟨k, ⟨rfl, rfl⟩, h⟩ := h
    refine ⟨rfl, ⟨1, rfl, b1, b2, b3, b4, s_mono h (s_I_of (fun v2 u2 h => ⟨v2, rfl, ?_⟩)) (fun _ _ h => h)⟩⟩
    obtain ⟨h1, h3⟩ := h
    apply eX12_thrown
    unfold vX12_thrown_0
    exact ⟨_, rfl, fun _ => ⟨fun _ => loop u2 h3, fun hn => absurd (show ¬ (1 : Int32) = 0 by decide) hn⟩, fun hn => absurd h1 hn⟩
theorem lc_35 {Φ : p_Cc} {N : Nat} {xs : Nat → Int32} {d a : Nat} {x4 : Int32} {w : q_Sm} {Q : s_Po} {Inv : q_Sm → Prop} (b1 : vp_in (x4 + 1) N) (b2 : vp_in (x4 + 2) N) (b3 : vp_in (x4 + 3) N) (h : ag_W Inv d 1 er_I mX11_decade mX12_decade w [.int (xs (Int32.toNatClampNeg (x4 + 1))), .int (xs (Int32.toNatClampNeg (x4 + 2))), .int (xs (Int32.toNatClampNeg (x4 + 3)))]) (loop : ∀ u, Inv u → ps_Ex Φ (d + 1 + 1) a mL_law_ 23 [some (.retAddr (999)), some (.ref (1)), some (.ref (79)), some (.ref (116)), some (.int (x4 + 6)), none, none, none] [] u Q X0) : vL_law_35 Φ N xs (d + 1) a x4 w Q X0 := by
  unfold vL_law_35
  refine ⟨b1, b2, b3, eL_decade (s_mono h (s_I_of (fun v u h => ⟨v, rfl, ?_⟩)) (fun E u h => ?_))⟩
  · refine ⟨0, rfl, b1, b2, b3, s_mono h (s_I_of (fun v2 u2 h => ⟨v2, rfl, ?_⟩)) (fun _ _ h => h)⟩
    obtain ⟨h1, h2, h3⟩ := h
    apply eX12_thrown
    unfold vX12_thrown_0
    exact ⟨_, rfl, fun _ => ⟨fun hn => absurd rfl hn, fun _ => ⟨fun _ => loop u2 h3, fun hc => absurd ((lg_cmp_eq _ _).mpr h2) hc⟩⟩, fun hn => absurd h1 hn⟩
  · obtain ⟨k, ⟨rfl, rfl⟩, h⟩ := h
    refine ⟨rfl, ⟨1, rfl, b1, b2, b3, s_mono h (s_I_of (fun v2 u2 h => ⟨v2, rfl, ?_⟩)) (fun _ _ h => h)⟩⟩
    obtain ⟨h1, h3⟩ := h
    apply eX12_thrown
    unfold vX12_thrown_0
    exact ⟨_, rfl, fun _ => ⟨fun _ => loop u2 h3, fun hn => absurd (show ¬ (1 : Int32) = 0 by decide) hn⟩, fun hn => absurd h1 hn⟩
theorem lc_36 {Φ : p_Cc} {N : Nat} {xs : Nat → Int32} {d a : Nat} {x4 : Int32} {w : q_Sm} {Q : s_Po} {Inv : q_Sm → Prop} (b1 : vp_in (x4 + 1) N) (b2 : vp_in (x4 + 2) N) (b3 : vp_in (x4 + 3) N) (b4 : vp_in (x4 + 4) N) (h : ag_W Inv d 1 er_I mX11_span mX12_span w [.int (xs (Int32.toNatClampNeg (x4 + 1))), .int (xs (Int32.toNatClampNeg (x4 + 2))), .int (xs (Int32.toNatClampNeg (x4 + 3))), .int (xs (Int32.toNatClampNeg (x4 + 4)))]) (loop : ∀ u, Inv u → ps_Ex Φ (d + 1 + 1) a mL_law_ 23 [some (.retAddr (999)), some (.ref (1)), some (.ref (79)), some (.ref (116)), some (.int (x4 + 6)), none, none, none] [] u Q X0) : vL_law_36 Φ N xs (d + 1) a x4 w Q X0 := by
  unfold vL_law_36
  refine ⟨b1, b2, b3, b4, eL_span (s_mono h (s_I_of (fun v u h => ⟨v, rfl, ?_⟩)) (fun E u h => ?_))⟩
  · refine ⟨0, rfl, b1, b2, b3, b4, s_mono h (s_I_of (fun v2 u2 h => ⟨v2, rfl, ?_⟩)) (fun _ _ h => h)⟩
    obtain ⟨h1, h2, h3⟩ := h
    apply eX12_thrown
    unfold vX12_thrown_0
    exact ⟨_, rfl, fun _ => ⟨fun hn => absurd rfl hn, fun _ => ⟨fun _ => loop u2 h3, fun hc => absurd ((lg_cmp_eq _ _).mpr h2) hc⟩⟩, fun hn => absurd h1 hn⟩
  · obtain ⟨k, ⟨rfl, rfl⟩, h⟩ := h
    refine ⟨rfl, ⟨1, rfl, b1, b2, b3, b4, s_mono h (s_I_of (fun v2 u2 h => ⟨v2, rfl, ?_⟩)) (fun _ _ h => h)⟩⟩
    obtain ⟨h1, h3⟩ := h
    apply eX12_thrown
    unfold vX12_thrown_0
    exact ⟨_, rfl, fun _ => ⟨fun _ => loop u2 h3, fun hn => absurd (show ¬ (1 : Int32) = 0 by decide) hn⟩, fun hn => absurd h1 hn⟩
theorem lc_37 {Φ : p_Cc} {N : Nat} {xs : Nat → Int32} {d a : Nat} {x4 : Int32} {w : q_Sm} {Q : s_Po} {Inv : q_Sm → Prop}  (h : ag_D Inv (d + 1) mX11_greatest mX12_greatest w []) (loop : ∀ u, Inv u → ps_Ex Φ (d + 1 + 1) a mL_law_ 23 [some (.retAddr (999)), some (.ref (1)), some (.ref (79)), some (.ref (116)), some (.int (x4 + 6)), none, none, none] [] u Q X0) : vL_law_37 Φ N xs (d + 1) a x4 w Q X0 := by
  unfold vL_law_37
  exact s_mono h (s_I_of (fun v u h => ⟨v, rfl, s_mono h (s_I_of (fun v2 u2 h => ⟨v2, rfl, fun _ => loop u2 h.2, fun hn => absurd h.1 hn⟩)) (fun _ _ h => h)⟩)) (fun _ _ h => h)
theorem lc_38 {Φ : p_Cc} {N : Nat} {xs : Nat → Int32} {d a : Nat} {x4 : Int32} {w : q_Sm} {Q : s_Po} {Inv : q_Sm → Prop} (b1 : vp_in (x4 + 1) N) (h : ag_W Inv d 1 er_I mX11_brightest mX12_brightest w [.int (xs (Int32.toNatClampNeg (x4 + 1)))]) (loop : ∀ u, Inv u → ps_Ex Φ (d + 1 + 1) a mL_law_ 23 [some (.retAddr (999)), some (.ref (1)), some (.ref (79)), some (.ref (116)), some (.int (x4 + 6)), none, none, none] [] u Q X0) : vL_law_38 Φ N xs (d + 1) a x4 w Q X0 := by
  unfold vL_law_38
  refine ⟨b1, eL_brightest (s_mono h (s_I_of (fun v u h => ⟨v, rfl, ?_⟩)) (fun E u h => ?_))⟩
  · refine ⟨0, rfl, b1, s_mono h (s_I_of (fun v2 u2 h => ⟨v2, rfl, ?_⟩)) (fun _ _ h => h)⟩
    obtain ⟨h1, h2, h3⟩ := h
    apply eX12_thrown
    unfold vX12_thrown_0
    exact ⟨_, rfl, fun _ => ⟨fun hn => absurd rfl hn, fun _ => ⟨fun _ => loop u2 h3, fun hc => absurd ((lg_cmp_eq _ _).mpr h2) hc⟩⟩, fun hn => absurd h1 hn⟩
  · obtain ⟨k, ⟨rfl, rfl⟩, h⟩ := h
    refine ⟨rfl, ⟨1, rfl, b1, s_mono h (s_I_of (fun v2 u2 h => ⟨v2, rfl, ?_⟩)) (fun _ _ h => h)⟩⟩
    obtain ⟨h1, h3⟩ := h
    apply eX12_thrown
    unfold vX12_thrown_0
    exact ⟨_, rfl, fun _ => ⟨fun _ => loop u2 h3, fun hn => absurd (show ¬ (1 : Int32) = 0 by decide) hn⟩, fun hn => absurd h1 hn⟩
theorem lc_39 {Φ : p_Cc} {N : Nat} {xs : Nat → Int32} {d a : Nat} {x4 : Int32} {w : q_Sm} {Q : s_Po} {Inv : q_Sm → Prop}  (h : ag_D Inv (d + 1) mX11_image mX12_image w []) (loop : ∀ u, Inv u → ps_Ex Φ (d + 1 + 1) a mL_law_ 23 [some (.retAddr (999)), some (.ref (1)), some (.ref (79)), some (.ref (116)), some (.int (x4 + 6)), none, none, none] [] u Q X0) : vL_law_39 Φ N xs (d + 1) a x4 w Q X0 := by
  unfold vL_law_39
  exact s_mono h (s_I_of (fun v u h => ⟨v, rfl, s_mono h (s_I_of (fun v2 u2 h => ⟨v2, rfl, fun _ => loop u2 h.2, fun hn => absurd h.1 hn⟩)) (fun _ _ h => h)⟩)) (fun _ _ h => h)
theorem lc_40 {Φ : p_Cc} {N : Nat} {xs : Nat → Int32} {d a : Nat} {x4 : Int32} {w : q_Sm} {Q : s_Po} {Inv : q_Sm → Prop}  (h : ag_D Inv (d + 1) mX11_restore mX12_restore w []) (loop : ∀ u, Inv u → ps_Ex Φ (d + 1 + 1) a mL_law_ 23 [some (.retAddr (999)), some (.ref (1)), some (.ref (79)), some (.ref (116)), some (.int (x4 + 6)), none, none, none] [] u Q X0) : vL_law_40 Φ N xs (d + 1) a x4 w Q X0 := by
  unfold vL_law_40
  exact s_mono h (s_I_of (fun v u h => ⟨v, rfl, s_mono h (s_I_of (fun v2 u2 h => ⟨v2, rfl, fun _ => loop u2 h.2, fun hn => absurd h.1 hn⟩)) (fun _ _ h => h)⟩)) (fun _ _ h => h)
theorem lc_41 {Φ : p_Cc} {N : Nat} {xs : Nat → Int32} {d a : Nat} {x4 : Int32} {w : q_Sm} {Q : s_Po} {Inv : q_Sm → Prop} (b1 : vp_in (x4 + 1) N) (h : ag_D Inv (d + 1) mX11_status mX12_status w [.int (xs (Int32.toNatClampNeg (x4 + 1)))]) (loop : ∀ u, Inv u → ps_Ex Φ (d + 1 + 1) a mL_law_ 23 [some (.retAddr (999)), some (.ref (1)), some (.ref (79)), some (.ref (116)), some (.int (x4 + 6)), none, none, none] [] u Q X0) : vL_law_41 Φ N xs (d + 1) a x4 w Q X0 := by
  unfold vL_law_41
  exact ⟨b1, s_mono h (s_I_of (fun v u h => ⟨v, rfl, b1, s_mono h (s_I_of (fun v2 u2 h => ⟨v2, rfl, fun _ => loop u2 h.2, fun hn => absurd h.1 hn⟩)) (fun _ _ h => h)⟩)) (fun _ _ h => h)⟩
theorem lc_42 {Φ : p_Cc} {N : Nat} {xs : Nat → Int32} {d a : Nat} {x4 : Int32} {w : q_Sm} {Q : s_Po} {Inv : q_Sm → Prop} (b1 : vp_in (x4 + 1) N) (h : ag_D Inv (d + 1) mX11_count mX12_count w [.int (xs (Int32.toNatClampNeg (x4 + 1)))]) (loop : ∀ u, Inv u → ps_Ex Φ (d + 1 + 1) a mL_law_ 23 [some (.retAddr (999)), some (.ref (1)), some (.ref (79)), some (.ref (116)), some (.int (x4 + 6)), none, none, none] [] u Q X0) : vL_law_42 Φ N xs (d + 1) a x4 w Q X0 := by
  unfold vL_law_42
  exact ⟨b1, s_mono h (s_I_of (fun v u h => ⟨v, rfl, b1, s_mono h (s_I_of (fun v2 u2 h => ⟨v2, rfl, fun _ => loop u2 h.2, fun hn => absurd h.1 hn⟩)) (fun _ _ h => h)⟩)) (fun _ _ h => h)⟩
theorem law_of {Inv : q_Sm → Prop} (h00 : Inv ini_u)
    (h0 : ∀ w, Inv w → ∀ (x1 x2 x3 x4 x5 : Int32), ag_D Inv 999 mX11_feed mX12_feed w [.int x1, .int x2, .int x3, .int x4, .int x5])
    (h1 : ∀ w, Inv w → ∀ (x1 : Int32), ag_W Inv 998 1 er_I mX11_coast mX12_coast w [.int x1])
    (h2 : ∀ w, Inv w → ∀ (x1 : Int32), ag_W Inv 998 1 er_I mX11_law mX12_law w [.int x1])
    (h3 : ∀ w, Inv w → ∀ (x1 : Int32), ag_W Inv 998 1 er_I mX11_work mX12_work w [.int x1])
    (h4 : ∀ w, Inv w → ∀ (x1 : Int32), ag_W Inv 998 1 er_I mX11_book mX12_book w [.int x1])
    (h5 : ∀ w, Inv w → ag_D Inv 999 mX11_fault mX12_fault w [])
    (h6 : ∀ w, Inv w → ag_D Inv 999 mX11_undo mX12_undo w [])
    (h7 : ∀ w, Inv w → ∀ (x1 : Int32), ag_W Inv 998 1 er_I mX11_told mX12_told w [.int x1])
    (h8 : ∀ w, Inv w → ∀ (x1 x2 : Int32), ag_W Inv 998 2 er_B mX11_creditor mX12_creditor w [.int x1, .int x2])
    (h9 : ∀ w, Inv w → ∀ (x1 x2 : Int32), ag_W Inv 998 2 er_B mX11_debt mX12_debt w [.int x1, .int x2])
    (h10 : ∀ w, Inv w → ∀ (x1 x2 : Int32), ag_W Inv 998 1 er_I mX11_light mX12_light w [.int x1, .int x2])
    (h11 : ∀ w, Inv w → ∀ (x1 x2 : Int32), ag_W Inv 998 1 er_I mX11_dusk mX12_dusk w [.int x1, .int x2])
    (h12 : ∀ w, Inv w → ∀ (x1 x2 x3 x4 : Int32), ag_W Inv 998 1 er_I mX11_would mX12_would w [.int x1, .int x2, .int x3, .int x4])
    (h13 : ∀ w, Inv w → ∀ (x1 : Int32), ag_W Inv 998 1 er_N mX11_grows mX12_grows w [.int x1])
    (h14 : ∀ w, Inv w → ∀ (x1 : Int32), ag_W Inv 998 1 er_I mX11_best mX12_best w [.int x1])
    (h15 : ∀ w, Inv w → ag_D Inv 999 mX11_soon mX12_soon w [])
    (h16 : ∀ w, Inv w → ∀ (x1 : Int32), ag_W Inv 998 1 er_I mX11_left mX12_left w [.int x1])
    (h17 : ∀ w, Inv w → ∀ (x1 x2 : Int32), ag_W Inv 998 2 er_B mX11_delay mX12_delay w [.int x1, .int x2])
    (h18 : ∀ w, Inv w → ag_D Inv 999 mX11_next mX12_next w [])
    (h19 : ∀ w, Inv w → ag_D Inv 999 mX11_matched mX12_matched w [])
    (h20 : ∀ w, Inv w → ∀ (x1 : Int32), ag_W Inv 998 1 er_N mX11_weds mX12_weds w [.int x1])
    (h21 : ∀ w, Inv w → ∀ (x1 : Int32), ag_W Inv 998 1 er_N mX11_choices mX12_choices w [.int x1])
    (h22 : ∀ w, Inv w → ∀ (x1 : Int32), ag_Z Inv 998 1 er_N mX11_sees mX12_sees w [.int x1])
    (h23 : ∀ w, Inv w → ∀ (x1 : Int32), ag_W Inv 998 1 er_I mX11_eyes mX12_eyes w [.int x1])
    (h24 : ∀ w, Inv w → ∀ (x1 x2 : Int32), ag_W Inv 998 1 er_I mX11_chairs mX12_chairs w [.int x1, .int x2])
    (h25 : ∀ w, Inv w → ∀ (x1 x2 x3 x4 : Int32), ag_W Inv 998 2 er_B mX11_gets mX12_gets w [.int x1, .int x2, .int x3, .int x4])
    (h26 : ∀ w, Inv w → ∀ (x1 x2 : Int32), ag_W Inv 998 2 er_N mX11_owes mX12_owes w [.int x1, .int x2])
    (h27 : ∀ w, Inv w → ∀ (x1 : Int32), ag_W Inv 998 1 er_N mX11_net mX12_net w [.int x1])
    (h28 : ∀ w, Inv w → ∀ (x1 : Int32), ag_W Inv 998 1 er_I mX11_struck mX12_struck w [.int x1])
    (h29 : ∀ w, Inv w → ag_D Inv 999 mX11_moved mX12_moved w [])
    (h30 : ∀ w, Inv w → ∀ (x1 : Int32), ag_W Inv 998 1 er_I mX11_look mX12_look w [.int x1])
    (h31 : ∀ w, Inv w → ∀ (x1 x2 x3 x4 x5 : Int32), ag_J Inv 998 1 er_I mX11_settle mX12_settle w [.int x1, .int x2, .int x3, .int x4, .int x5])
    (h32 : ∀ w, Inv w → ∀ (x1 x2 x3 x4 : Int32), ag_Z Inv 998 1 er_I mX11_now mX12_now w [.int x1, .int x2, .int x3, .int x4])
    (h33 : ∀ w, Inv w → ∀ (x1 x2 x3 x4 : Int32), ag_W Inv 998 2 er_I mX11_bids mX12_bids w [.int x1, .int x2, .int x3, .int x4])
    (h34 : ∀ w, Inv w → ∀ (x1 x2 x3 x4 : Int32), ag_W Inv 998 1 er_I mX11_has mX12_has w [.int x1, .int x2, .int x3, .int x4])
    (h35 : ∀ w, Inv w → ∀ (x1 x2 x3 : Int32), ag_W Inv 998 1 er_I mX11_decade mX12_decade w [.int x1, .int x2, .int x3])
    (h36 : ∀ w, Inv w → ∀ (x1 x2 x3 x4 : Int32), ag_W Inv 998 1 er_I mX11_span mX12_span w [.int x1, .int x2, .int x3, .int x4])
    (h37 : ∀ w, Inv w → ag_D Inv 999 mX11_greatest mX12_greatest w [])
    (h38 : ∀ w, Inv w → ∀ (x1 : Int32), ag_W Inv 998 1 er_I mX11_brightest mX12_brightest w [.int x1])
    (h39 : ∀ w, Inv w → ag_D Inv 999 mX11_image mX12_image w [])
    (h40 : ∀ w, Inv w → ag_D Inv 999 mX11_restore mX12_restore w [])
    (h41 : ∀ w, Inv w → ∀ (x1 : Int32), ag_D Inv 999 mX11_status mX12_status w [.int x1])
    (h42 : ∀ w, Inv w → ∀ (x1 : Int32), ag_D Inv 999 mX11_count mX12_count w [.int x1]) : law_ok := by
  refine ⟨Inv, h00, fun N xs hN => ?_⟩
  have key : ∀ n i : Nat, N + 6 ≤ i + 6 * n + 6 → i ≤ N + 6 → ∀ w, Inv w → ps_Ex (p_Sc N xs) (998 + 1 + 1) (2 * n + 2) mL_law_ 23 [some (.retAddr (999)), some (.ref (1)), some (.ref (79)), some (.ref (116)), some (.int (nI i)), none, none, none] [] w (fun r _ => r = some (.int 1)) X0 := by
    intro n
    induction n with
    | zero =>
      intro i g1 g2 w hw
      refine xL_law (a := 0) (fun _ _ _ _ _ h => h) (fun _ _ _ _ _ h => h.2.2.2) ?_
      unfold vL_law
      exact ⟨fun _ => rfl, fun g9 => absurd ((lp_lt hN (by omega)).mpr (by omega)) g9⟩
    | succ n ih =>
      intro i g1 g2 w hw
      refine xL_law (a := 2 * n + 2) (fun _ _ _ _ _ h => h) (fun _ _ _ _ _ h => h.2.2.2) ?_
      unfold vL_law
      refine ⟨fun _ => rfl, fun g9 => ?_⟩
      have hlt : i + 6 ≤ N := by
        rcases Nat.lt_or_ge N (i + 6) with q | q
        · exact absurd ((lp_lt hN (by omega)).mpr q) g9
        · exact q
      have b0 : vp_in (nI i) N := vp_in_nI (by omega) (by omega)
      have b1 : vp_in (nI i + 1) N := by rw [nI_1]; exact vp_in_nI (by omega) (by omega)
      have b2 : vp_in (nI i + 2) N := by rw [show nI i + 2 = nI (i + 2) from nI_add i 2]; exact vp_in_nI (by omega) (by omega)
      have b3 : vp_in (nI i + 3) N := by rw [show nI i + 3 = nI (i + 3) from nI_add i 3]; exact vp_in_nI (by omega) (by omega)
      have b4 : vp_in (nI i + 4) N := by rw [show nI i + 4 = nI (i + 4) from nI_add i 4]; exact vp_in_nI (by omega) (by omega)
      have b5 : vp_in (nI i + 5) N := by rw [show nI i + 5 = nI (i + 5) from nI_add i 5]; exact vp_in_nI (by omega) (by omega)
      have loop : ∀ u, Inv u → ps_Ex (p_Sc N xs) (998 + 1 + 1) (2 * n + 2) mL_law_ 23 [some (.retAddr (999)), some (.ref (1)), some (.ref (79)), some (.ref (116)), some (.int (nI i + 6)), none, none, none] [] u (fun r _ => r = some (.int 1)) X0 := by
        intro u hu
        rw [show nI i + 6 = nI (i + 6) from nI_add i 6]
        exact ih (i + 6) (by omega) (by omega) u hu
      exact ⟨b0, fun _ => loop w hw, fun _ => lc_0 b1 b2 b3 b4 b5 (h0 w hw _ _ _ _ _) loop, fun _ => lc_1 b1 (h1 w hw _) loop, fun _ => lc_2 b1 (h2 w hw _) loop, fun _ => lc_3 b1 (h3 w hw _) loop, fun _ => lc_4 b1 (h4 w hw _) loop, fun _ => lc_5 (h5 w hw) loop, fun _ => lc_6 (h6 w hw) loop, fun _ => lc_7 b1 (h7 w hw _) loop, fun _ => lc_8 b1 b2 (h8 w hw _ _) loop, fun _ => lc_9 b1 b2 (h9 w hw _ _) loop, fun _ => lc_10 b1 b2 (h10 w hw _ _) loop, fun _ => lc_11 b1 b2 (h11 w hw _ _) loop, fun _ => lc_12 b1 b2 b3 b4 (h12 w hw _ _ _ _) loop, fun _ => lc_13 b1 (h13 w hw _) loop, fun _ => lc_14 b1 (h14 w hw _) loop, fun _ => lc_15 (h15 w hw) loop, fun _ => lc_16 b1 (h16 w hw _) loop, fun _ => lc_17 b1 b2 (h17 w hw _ _) loop, fun _ => lc_18 (h18 w hw) loop, fun _ => lc_19 (h19 w hw) loop, fun _ => lc_20 b1 (h20 w hw _) loop, fun _ => lc_21 b1 (h21 w hw _) loop, fun _ => lc_22 b1 (h22 w hw _) loop, fun _ => lc_23 b1 (h23 w hw _) loop, fun _ => lc_24 b1 b2 (h24 w hw _ _) loop, fun _ => lc_25 b1 b2 b3 b4 (h25 w hw _ _ _ _) loop, fun _ => lc_26 b1 b2 (h26 w hw _ _) loop, fun _ => lc_27 b1 (h27 w hw _) loop, fun _ => lc_28 b1 (h28 w hw _) loop, fun _ => lc_29 (h29 w hw) loop, fun _ => lc_30 b1 (h30 w hw _) loop, fun _ => lc_31 b1 b2 b3 b4 b5 (h31 w hw _ _ _ _ _) loop, fun _ => lc_32 b1 b2 b3 b4 (h32 w hw _ _ _ _) loop, fun _ => lc_33 b1 b2 b3 b4 (h33 w hw _ _ _ _) loop, fun _ => lc_34 b1 b2 b3 b4 (h34 w hw _ _ _ _) loop, fun _ => lc_35 b1 b2 b3 (h35 w hw _ _ _) loop, fun _ => lc_36 b1 b2 b3 b4 (h36 w hw _ _ _ _) loop, fun _ => lc_37 (h37 w hw) loop, fun _ => lc_38 b1 (h38 w hw _) loop, fun _ => lc_39 (h39 w hw) loop, fun _ => lc_40 (h40 w hw) loop, fun _ => lc_41 b1 (h41 w hw _) loop, fun _ => lc_42 b1 (h42 w hw _) loop⟩
  intro w hw
  have g9 := key 999 0 (by omega) (by omega) w hw
  exact g9
