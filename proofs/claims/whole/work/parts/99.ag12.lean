/-! the chairs agree -/
theorem gC_le {T : Tb} {r : Nat} (ht : tb T) : gC T r 0 ≤ T 7 0 := by
  have h1 := gF_le (T := T) (r := r) 6 0
  have h2 := gN_le (T := T) (q := 0)
  unfold gC
  omega
theorem ch_0 {T : Tb} {r : Nat} (ht : tb T) (k : Nat) : (k < gC T r 0 → ch T r k 0 0 = none) ∧ (k = gC T r 0 → ch T r k 0 0 = some (gr T r k 0 0)) := by
  refine ch_gr ht k 0 0 0 (by omega) (Or.inl rfl) (fun c _ => ⟨?_, fun h => by omega⟩)
  rintro ⟨x, _, h, _⟩
  simp at h
theorem R_chairsD {n r k x b : Nat} {T : Tb} {C : Nat → Nat} {w : q_Sm} {X : s_Xo} {Q : Int32 → q_Sm → Prop} (hE : RE T C n w) (hr : r < 20) (hk : k ≤ 6) (hx : x ≤ 20) (hb : b < 2 ^ 20) (h0 : ch T r k x b = none → Q 0 w) (h1 : ∀ v, ch T r k x b = some v → ∀ u, u = q_wI w 79 61 (nI v) → Q 1 u) :
    s_EvI 998 0 mX12_chairsOn w [.ref 79, .int (nI k), .int (nI x), .int (nI b), .int (nI r)] Q X := by
  have := R_chairsOn (X := X) hE hr k (997 - k) x b Q hk hx hb h0 h1
  rw [show 997 - k + k + 1 = 998 by omega] at this
  exact this
theorem ag_chairs (w : q_Sm) (hI : Inv w) (x1 : Int32) (x2 : Int32) : ag_W Inv 998 1 er_I mX11_chairs mX12_chairs w [.int x1, .int x2] := by
  obtain ⟨T, β, C, n, S, B, m, hC, hPst, hImg, hTp, hCnt⟩ := id hI
  have hE := hC.2.1
  have ht := hE.2.2.1
  have hRE := hC.2.2.1
  have hnc := tb_nc ht
  have hnd := tb_nd ht
  have hnw := tb_nw ht
  have hS := hC.2.2.2.1
  have hSr := hC.2.2.2.2.1
  have hok := hC.2.2.2.2.2.1
  have hβ := hE.ord
  rcases rng x1 19 (by omega) with ⟨j1, g1, rfl⟩ | e0
  rotate_left
  · have e0 : r_in x1 0 19 = 0 := e0
    refine agW_no hI "java/lang/IllegalArgumentException" (nI 1) 14 1 (by omega) (⟨rfl, rfl⟩) (fun Q X hX => ?_) (fun u hu Q X hQ => ?_)
    · apply eX11_chairs
      unfold vX11_chairs_0
      refine K_isIn ?_
      rw [e0]
      exact ⟨fun _ => K_req0 hX, fun z => absurd rfl z⟩
    · have hE1 : RE T C n (q_wI u 79 0 0) := (hRE.n1 hu).t
      have h79 : (q_wI u 79 0 0).1 79 0 = 0 := rd_s
      apply eX12_chairs
      unfold vX12_chairs_0
      rintro _ rfl
      refine R_within ?_
      rw [e0]
      refine ⟨fun _ => R_no (k := 1) (t := 1) (by omega) (by omega) (by omega) ?_, fun z => absurd rfl z⟩
      first | exact ⟨fun _ => ⟨_, rfl, hQ⟩, fun z => absurd rfl z⟩ | exact ⟨fun z => absurd rfl z, fun _ => ⟨_, rfl, hQ⟩⟩
  have p0 : r_in (nI j1) 0 19 = 1 := r_in1 (a := 0) (b := 19) (by omega) (by omega) (by omega)
  rcases rng x2 1 (by omega) with ⟨j2, g2, rfl⟩ | e1
  rotate_left
  · have e1 : r_in x2 0 1 = 0 := e1
    refine agW_no hI "java/lang/IllegalArgumentException" (nI 1) 14 1 (by omega) (⟨rfl, rfl⟩) (fun Q X hX => ?_) (fun u hu Q X hQ => ?_)
    · apply eX11_chairs
      unfold vX11_chairs_0
      refine K_isIn ?_
      rw [p0]
      refine ⟨fun z => absurd z (by decide), fun _ => ?_⟩
      refine K_isIn ?_
      rw [e1]
      exact ⟨fun _ => K_req0 hX, fun z => absurd rfl z⟩
    · have hE1 : RE T C n (q_wI u 79 0 0) := (hRE.n1 hu).t
      have h79 : (q_wI u 79 0 0).1 79 0 = 0 := rd_s
      apply eX12_chairs
      unfold vX12_chairs_0
      rintro _ rfl
      refine R_within ?_
      rw [p0]
      refine ⟨fun z => absurd z (by decide), fun _ => ?_⟩
      refine R_within ?_
      rw [e1]
      refine ⟨fun _ => R_no (k := 1) (t := 1) (by omega) (by omega) (by omega) ?_, fun z => absurd rfl z⟩
      first | exact ⟨fun _ => ⟨_, rfl, hQ⟩, fun z => absurd rfl z⟩ | exact ⟨fun z => absurd rfl z, fun _ => ⟨_, rfl, hQ⟩⟩
  have p1 : r_in (nI j2) 0 1 = 1 := r_in1 (a := 0) (b := 1) (by omega) (by omega) (by omega)
  refine agW_ok (nI (if j2 = 0 then gC T j1 0 else gr T j1 (gC T j1 0) 0 0)) hI (fun Q X hQ => ?_) (fun u hu Q X hQ => ?_)
  · apply eX11_chairs
    unfold vX11_chairs_0
    refine K_isIn ?_
    rw [p0]
    refine ⟨fun z => absurd z (by decide), fun _ => ?_⟩
    refine K_isIn ?_
    rw [p1]
    refine ⟨fun z => absurd z (by decide), fun _ => K_req1 ?_⟩
    rcases (show j2 = 0 ∨ j2 = 1 by omega) with e | e
    · subst e
      exact ⟨fun z => absurd rfl z, fun _ => K_fewest (q := 0) hE (by decide) (by omega) ⟨_, rfl, hQ w (fr.refl _ _)⟩⟩
    · subst e
      exact ⟨fun _ => K_firstChairs hE (by omega) ⟨_, rfl, hQ w (fr.refl _ _)⟩, fun z => absurd (by decide) z⟩
  · have hCu := hC.sim hu
    have hE1 : RE T C n (q_wI u 79 0 0) := hCu.2.2.1.t
    have h79 : (q_wI u 79 0 0).1 79 0 = 0 := rd_s
    have hS1 : rR 104 S (q_wI u 79 0 0) := hCu.2.2.2.2.1.eq (fun j => rd_i (by omega))
    have hf1 : fr scr u (q_wI u 79 0 0) := scr_t
    apply eX12_chairs
    unfold vX12_chairs_0
    intro w1 hw1
    rw [← hw1] at hE1 h79 hS1 hf1
    refine R_within ?_
    rw [p0]
    refine ⟨fun z => absurd z (by decide), fun _ => ?_⟩
    refine R_within ?_
    rw [p1]
    refine ⟨fun z => absurd z (by decide), fun _ => R_may1 h79 ?_⟩
    first | refine ⟨fun z => absurd z (by decide), fun _ => ?_⟩ | refine ⟨fun _ => ?_, fun z => absurd (show ¬ (1 : Int32) = 0 by decide) z⟩
    have hgl := gC_le (r := j1) ht
    have loop : ∀ j k, k + j = gC T j1 0 → s_Ex (998 + 1) 0 mX12_chairs 42 [some (.ref 79), some (.int (nI j1)), some (.int (nI j2)), some (.int (nI k))] [] w1 (s_I Q) X := by
      intro j
      induction j with
      | zero =>
        intro k hk
        have hk : k = gC T j1 0 := by omega
        apply xX12_chairs_42
        unfold vX12_chairs_42
        rw [hE1.nc, nI_ltI (by omega) (by omega)]
        refine ⟨fun z => absurd z (by omega), fun _ => R_chairsD (r := j1) (k := k) (x := 0) (b := 0) hE1 (by omega) (by omega) (by omega) (by decide) (fun z => ?_) (fun v z u hu => ?_)⟩
        · rw [(ch_0 ht k).2 hk] at z
          simp at z
        · rw [(ch_0 ht k).2 hk] at z
          simp at z
          refine ⟨fun z => absurd z (by decide), fun _ => ?_⟩
          have hfu : fr scr w1 u := by rw [hu]; exact fr.wr rfl
          have hu61 : u.1 79 61 = nI v := by rw [hu, rd_s]
          have hu0 : u.1 79 0 = 0 := by rw [hu, rd_j (by decide)]; exact h79
          have fin := hQ u (hf1.trans hfu) hu0
          rw [hu61, s_Ii, s_Ii]
          rcases (show j2 = 0 ∨ j2 = 1 by omega) with e | e
          · subst e
            rw [if_pos rfl, ← hk] at fin
            exact ⟨fun z => absurd rfl z, fun _ => fin⟩
          · subst e
            rw [if_neg (by decide), ← hk, z] at fin
            exact ⟨fun _ => fin, fun z => absurd (by decide) z⟩
      | succ j ih =>
        intro k hk
        apply xX12_chairs_42
        unfold vX12_chairs_42
        rw [hE1.nc, nI_ltI (by omega) (by omega), nI_1 k]
        refine ⟨fun z => absurd z (by omega), fun _ => R_chairsD (r := j1) (k := k) (x := 0) (b := 0) hE1 (by omega) (by omega) (by omega) (by decide) (fun z => ?_) (fun v z u hu => ?_)⟩
        · exact ⟨fun _ => ih (k + 1) (by omega), fun z => absurd rfl z⟩
        · rw [(ch_0 ht k).1 (by omega)] at z
          simp at z
    exact loop (gC T j1 0) 0 (by omega)
