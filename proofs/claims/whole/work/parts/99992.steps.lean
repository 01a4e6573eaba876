/-! one step of work, on both sides -/
theorem py_30 {T : Tb} {S : Nat → Nat} {d m e : Nat} (hd : d < 10) (he : e < 10) (hc : cl T d < 4) : pyS T S d m (30 + e) = S (30 + e) + (if d = e then m else 0) := by
  by_cases q : d = e
  · subst q
    rw [if_pos rfl]
    unfold pyS
    rw [up_n (by omega), up_n (by omega), up_s]
  · rw [if_neg q, py_o (by omega) (by omega) (by omega) (by omega) (by omega)]
    rfl
theorem okr_py {T : Tb} {S : Nat → Nat} {d m : Nat} (ht : tb T) (h : okr T S) (hd : d < T 7 1) : okr T (pyS T S d m) := by
  have hn := tb_nd ht
  have hc : cl T d < 4 := (ht.2.2.1 d hd).2.1
  refine ⟨⟨rb_py ht h.1.1 hd, ?_⟩, fun k hk => ?_⟩
  · rw [py_o (by omega) (by omega) (by omega) (by omega) (by omega)]
    exact h.1.2
  · have e1 : pyS T S d m (58 + k) = S (58 + k) + (if cl T d = k then m else 0) := by
      by_cases q : cl T d = k
      · rw [if_pos q, ← q]
        unfold pyS
        rw [up_s]
      · rw [if_neg q, py_o (by omega) (by omega) (by omega) (by omega) (by omega)]
        rfl
    have e2 : sm (pof T (pyS T S d m) k) (T 7 1) = sm (fun e => pof T S k e + (if d = e then (if cl T d = k then m else 0) else 0)) (T 7 1) := by
      refine sm_c _ (fun e he => ?_)
      show (if cl T e = k then pyS T S d m (30 + e) else 0) = (if cl T e = k then S (30 + e) else 0) + (if d = e then (if cl T d = k then m else 0) else 0)
      rw [py_30 (by omega) (by omega) hc]
      by_cases q : d = e
      · subst q
        by_cases q2 : cl T d = k
        · simp [q2]
        · simp [q2]
      · simp [q]
    rw [e1, e2, sm_add, sm_one hd, h.2 k hk]
theorem okr_ps {T : Tb} {C : Nat → Nat} {n : Nat} {S : Nat → Nat} (ht : tb T) (h : okr T S) (h62 : S 62 ≠ 200) : okr T (psS T C n S) := by
  have hn := tb_nd ht
  have h2 := h.1.2
  refine ⟨⟨rb_ps ht h.1.1 (by omega), by rw [ps_62]; omega⟩, fun k hk => ?_⟩
  rw [(ps_k ht hk).2.2, h.2 k hk]
  refine sm_c _ (fun e he => ?_)
  show (if cl T e = k then S (30 + e) else 0) = (if cl T e = k then psS T C n S (30 + e) else 0)
  have : psS T C n S (30 + e) = S (30 + e) := by
    unfold psS
    rw [ltS_o 4 (by omega) (by omega), up_n (by omega), psI_o _ hn (by omega)]
  rw [this]
theorem okr_of {T : Tb} {S S' : Nat → Nat} (h : okr T S) (hr : rb T S') (h30 : ∀ e, e < 10 → S' (30 + e) = S (30 + e)) (h58 : ∀ k, k < 4 → S' (58 + k) = S (58 + k)) (h62 : S' 62 = S 62) (hn : T 7 1 ≤ 10) : okr T S' := by
  refine ⟨⟨hr, by rw [h62]; exact h.1.2⟩, fun k hk => ?_⟩
  rw [h58 k hk, h.2 k hk]
  refine sm_c _ (fun e he => ?_)
  show (if cl T e = k then S (30 + e) else 0) = (if cl T e = k then S' (30 + e) else 0)
  rw [h30 e (by omega)]
def boS (S : Nat → Nat) (x y : Nat) : Nat → Nat := up (up S (54 + x) (S (54 + x) + y)) (50 + x) (S (50 + x) + y)
theorem okr_bo {T : Tb} {S : Nat → Nat} {x y : Nat} (ht : tb T) (h : okr T S) (hx : x < 4) (hy : S (54 + x) + y ≤ T 4 x) : okr T (boS S x y) := by
  have hn := tb_nd ht
  have hr := h.1.1
  have o : ∀ k, k ≠ 54 + x → k ≠ 50 + x → boS S x y k = S k := fun k q1 q2 => by
    unfold boS
    rw [up_n q2, up_n q1]
  refine okr_of h ⟨fun d hd => ?_, fun k hk => ?_, ?_⟩ (fun e he => o _ (by omega) (by omega)) (fun k hk => o _ (by omega) (by omega)) (o _ (by omega) (by omega)) hn
  · rw [o d (by omega) (by omega), o (10 + d) (by omega) (by omega), o (20 + d) (by omega) (by omega)]
    exact hr.1 d hd
  · have := hr.2.1 k hk
    by_cases q : k = x
    · subst q
      have e1 : boS S k y (50 + k) = S (50 + k) + y := up_s _ _ _
      have e2 : boS S k y (54 + k) = S (54 + k) + y := by
        unfold boS
        rw [up_n (by omega), up_s]
      rw [e1, e2]
      omega
    · rw [o (50 + k) (by omega) (by omega), o (54 + k) (by omega) (by omega)]
      exact this
  · rw [o 62 (by omega) (by omega)]
    exact hr.2.2
theorem okr_ha {T : Tb} {S : Nat → Nat} {x y : Nat} (ht : tb T) (h : okr T S) (hx : x < T 7 1) (hy : y < T 7 0) : okr T (up S (10 + x) y) := by
  have hn := tb_nd ht
  have hr := h.1.1
  have o : ∀ k, k ≠ 10 + x → up S (10 + x) y k = S k := fun k q1 => up_n q1
  refine okr_of h ⟨fun d hd => ?_, fun k hk => ?_, ?_⟩ (fun e he => o _ (by omega)) (fun k hk => o _ (by omega)) (o _ (by omega)) hn
  · have := hr.1 d hd
    rw [o d (by omega), o (20 + d) (by omega)]
    by_cases q : d = x
    · rw [q, up_s]
      subst q
      exact ⟨this.1, hy, this.2.2⟩
    · rw [o (10 + d) (by omega)]
      exact this
  · rw [o (50 + k) (by omega), o (54 + k) (by omega)]
    exact hr.2.1 k hk
  · rw [o 62 (by omega)]
    exact hr.2.2
/-- a step that may stand in a program -/
def stO (T : Tb) (k x y : Nat) : Prop := (k = 0 ∧ x < T 7 1 ∧ y ≤ 99) ∨ (k = 1 ∧ x < T 7 1) ∨ (k = 2 ∧ x < 4 ∧ y ≤ 99) ∨ (k = 3 ∧ x < T 7 1 ∧ y < T 7 0) ∨ k = 4
theorem step_out {T : Tb} {C S : Nat → Nat} {n k x y : Nat} (ht : tb T) (hS : okr T S) (hk : stO T k x y) : ∃ (v : Nat) (S' : Nat → Nat), v ≤ 1 ∧ okr T S' ∧
    (∀ d o l β i (w : q_Sm) (Q : Int32 → q_Sm → Prop) X, KE o l T β C n w → cR 57 S w → i < 150 → w.1 53 i = nI k → w.1 54 i = nI x → w.1 55 i = nI y → (∀ u, fr (aR 56) w u → cR 57 S' u → Q (nI v) u) → s_EvI (d + 6) 0 mX9_isDone w [.ref 52, .int (nI i), .ref 56, .ref o, .ref l] Q X) ∧
    (∀ d (w : q_Sm) (Q : Int32 → q_Sm → Prop) X, RE T C n w → rR 105 S w → (∀ u, fr aS w u → rR 105 S' u → Q (nI v) u) → s_EvI (d + 8) 0 mX12_goes w [.ref 79, .int (nI k), .int (nI x), .int (nI y)] Q X) := by
  have hn := tb_nd ht
  have hn0 := tb_nc ht
  have hr := hS.1.1
  rcases hk with ⟨rfl, hx, hy⟩ | ⟨rfl, hx⟩ | ⟨rfl, hx, hy⟩ | ⟨rfl, hx, hy⟩ | rfl
  · have hB : S x ≤ 9999 ∧ S (50 + cl T x) ≤ 139 := ⟨(hr.1 x hx).1, rb_left ht hr (ht.2.2.1 x hx).2.1⟩
    by_cases hc : canP T S x y
    · refine ⟨1, pyS T S x y, by omega, okr_py ht hS hx, fun d o l β i w Q X hE hw hi h53 h54 h55 h => ?_, fun d w Q X hE hw h => ?_⟩
      · apply eX9_isDone
        unfold vX9_isDone_0
        rw [nI_clamp (by omega), h53, h54, h55]
        have vi : vp_in (nI i) 150 := (vp_nI (by omega)).mpr hi
        refine ⟨vi, fun z => absurd z (by decide), fun _ => ⟨vi, vi, q_id_of rfl, K_pay (d := d + 3) hE (Or.inl rfl) hw hx hB (by omega) (fun _ u fu ru => ⟨rfl, ?_⟩) (fun q => absurd hc q)⟩, fun z => absurd z (by decide), fun z => absurd z (by decide), fun z => absurd z (by decide)⟩
        rw [s_Ii]
        exact h u fu ru
      · apply eX12_goes
        unfold vX12_goes_0
        refine ⟨fun _ => ⟨fun z => absurd rfl z, fun _ => r_pays (d := d + 5) hE hw hx hB (by omega) (fun _ u fu ru => ⟨rfl, ?_⟩) (fun q => absurd hc q)⟩, fun z => absurd (by decide) z⟩
        rw [s_Ii]
        exact h u fu ru
    · refine ⟨0, S, by omega, hS, fun d o l β i w Q X hE hw hi h53 h54 h55 h => ?_, fun d w Q X hE hw h => ?_⟩
      · apply eX9_isDone
        unfold vX9_isDone_0
        rw [nI_clamp (by omega), h53, h54, h55]
        have vi : vp_in (nI i) 150 := (vp_nI (by omega)).mpr hi
        refine ⟨vi, fun z => absurd z (by decide), fun _ => ⟨vi, vi, q_id_of rfl, K_pay (d := d + 3) hE (Or.inl rfl) hw hx hB (by omega) (fun q => absurd q hc) (fun _ => ⟨rfl, ?_⟩)⟩, fun z => absurd z (by decide), fun z => absurd z (by decide), fun z => absurd z (by decide)⟩
        rw [s_Ii]
        exact h w (fr.refl _ _) hw
      · apply eX12_goes
        unfold vX12_goes_0
        refine ⟨fun _ => ⟨fun z => absurd rfl z, fun _ => r_pays (d := d + 5) hE hw hx hB (by omega) (fun q => absurd q hc) (fun _ => ⟨rfl, ?_⟩)⟩, fun z => absurd (by decide) z⟩
        rw [s_Ii]
        exact h w (fr.refl _ _) hw
  · have hB : S x ≤ 9999 ∧ S (50 + cl T x) ≤ 139 := ⟨(hr.1 x hx).1, rb_left ht hr (ht.2.2.1 x hx).2.1⟩
    have a0 : (0 : Int32) + nI x = nI x := by rw [show (0 : Int32) = nI 0 from rfl, nI_add, Nat.zero_add]
    by_cases hc : canP T S x (S x)
    · refine ⟨1, pyS T S x (S x), by omega, okr_py ht hS hx, fun d o l β i w Q X hE hw hi h53 h54 h55 h => ?_, fun d w Q X hE hw h => ?_⟩
      · apply eX9_isDone
        unfold vX9_isDone_0
        rw [nI_clamp (by omega), h53, h54, h55]
        have vi : vp_in (nI i) 150 := (vp_nI (by omega)).mpr hi
        refine ⟨vi, fun z => absurd z (by decide), fun z => absurd z (by decide), fun _ => ⟨vi, vi, q_id_of rfl, K_owed (d := d + 4) (Or.inl rfl) hw (by omega) ⟨q_id_of rfl, K_pay (d := d + 3) hE (Or.inl rfl) hw hx hB (by omega) (fun _ u fu ru => ⟨rfl, ?_⟩) (fun q => absurd hc q)⟩⟩, fun z => absurd z (by decide), fun z => absurd z (by decide)⟩
        rw [s_Ii]
        exact h u fu ru
      · apply eX12_goes
        unfold vX12_goes_0
        rw [a0, nI_clamp (show x < 2 ^ 31 by omega), hw x (by omega)]
        refine ⟨fun _ => ⟨fun _ => ⟨fun z => absurd rfl z, fun _ => ⟨(vp_nI (by omega)).mpr (by omega), r_pays (d := d + 5) hE hw hx hB (by omega) (fun _ u fu ru => ⟨rfl, ?_⟩) (fun q => absurd hc q)⟩⟩, fun z => absurd (by decide) z⟩, fun z => absurd (by decide) z⟩
        rw [s_Ii]
        exact h u fu ru
    · refine ⟨0, S, by omega, hS, fun d o l β i w Q X hE hw hi h53 h54 h55 h => ?_, fun d w Q X hE hw h => ?_⟩
      · apply eX9_isDone
        unfold vX9_isDone_0
        rw [nI_clamp (by omega), h53, h54, h55]
        have vi : vp_in (nI i) 150 := (vp_nI (by omega)).mpr hi
        refine ⟨vi, fun z => absurd z (by decide), fun z => absurd z (by decide), fun _ => ⟨vi, vi, q_id_of rfl, K_owed (d := d + 4) (Or.inl rfl) hw (by omega) ⟨q_id_of rfl, K_pay (d := d + 3) hE (Or.inl rfl) hw hx hB (by omega) (fun q => absurd q hc) (fun _ => ⟨rfl, ?_⟩)⟩⟩, fun z => absurd z (by decide), fun z => absurd z (by decide)⟩
        rw [s_Ii]
        exact h w (fr.refl _ _) hw
      · apply eX12_goes
        unfold vX12_goes_0
        rw [a0, nI_clamp (show x < 2 ^ 31 by omega), hw x (by omega)]
        refine ⟨fun _ => ⟨fun _ => ⟨fun z => absurd rfl z, fun _ => ⟨(vp_nI (by omega)).mpr (by omega), r_pays (d := d + 5) hE hw hx hB (by omega) (fun q => absurd q hc) (fun _ => ⟨rfl, ?_⟩)⟩⟩, fun z => absurd (by decide) z⟩, fun z => absurd (by decide) z⟩
        rw [s_Ii]
        exact h w (fr.refl _ _) hw
  · have hl := hr.2.1 x hx
    have h4 := ht.2.2.2.2.2.1 x hx
    have a54 : (54 : Int32) + nI x = nI (54 + x) := by rw [show (54 : Int32) = nI 54 from rfl, nI_add]
    have a50 : (50 : Int32) + nI x = nI (50 + x) := by rw [show (50 : Int32) = nI 50 from rfl, nI_add]
    have kin : ∀ d o l β i (w : q_Sm) (Q : Int32 → q_Sm → Prop) X, KE o l T β C n w → cR 57 S w → i < 150 → w.1 53 i = nI 2 → w.1 54 i = nI x → w.1 55 i = nI y → (S (54 + x) + y ≤ T 4 x → ∀ u, fr (aR 56) w u → cR 57 (boS S x y) u → Q (nI 1) u) → (¬ S (54 + x) + y ≤ T 4 x → Q (nI 0) w) → s_EvI (d + 6) 0 mX9_isDone w [.ref 52, .int (nI i), .ref 56, .ref o, .ref l] Q X := by
      intro d o l β i w Q X hE hw hi h53 h54 h55 h1 h0
      have ho := hE.1
      obtain ⟨q1, q2, q3⟩ := fl_11 ho
      have c4 : w.1 (o + 11) x = nI (T 4 x) := hE.2.2.2.1.2.2.2.2.2.1 x hx
      have c54 : w.1 57 (54 + x) = nI (S (54 + x)) := by rw [hw (54 + x) (by omega), pm_54 hx]
      have c50 : w.1 57 (50 + x) = nI (S (50 + x)) := by rw [hw (50 + x) (by omega), pm_50 hx]
      have s57 : (q_sh (56 + 1)).2 = 59 := rfl
      apply eX9_isDone
      unfold vX9_isDone_0
      rw [nI_clamp (by omega), h53, h54, h55]
      have vi : vp_in (nI i) 150 := (vp_nI (by omega)).mpr hi
      refine ⟨vi, fun z => absurd z (by decide), fun z => absurd z (by decide), fun z => absurd z (by decide), fun _ => ⟨vi, vi, q_id_of rfl, ?_⟩, fun z => absurd z (by decide)⟩
      apply eX6_borrow
      unfold vX6_borrow_0
      rw [q3, a54, a50, nI_clamp (by omega), nI_clamp (by omega), nI_clamp (by omega), c4, s57]
      refine ⟨ia_0 ho, q2, (vp_nI (by omega)).mpr hx, q_id_of rfl, K_lent (d := d + 3) (Or.inl rfl) hw hx ?_⟩
      rw [pk_sub hl.2, nI_leI (by omega) (by omega)]
      refine ⟨fun z => ⟨q_id_of rfl, q_id_of rfl, (vp_nI (by omega)).mpr (by omega), q_id_of rfl, (vp_nI (by omega)).mpr (by omega), ?_⟩, fun z => ?_⟩
      · intro w3 e3
        refine ⟨q_id_of rfl, q_id_of rfl, (vp_nI (by omega)).mpr (by omega), q_id_of rfl, (vp_nI (by omega)).mpr (by omega), ?_⟩
        intro w4 e4
        have e4 : w4 = q_wI (q_wI w 57 (54 + x) (nI (S (54 + x) + y))) 57 (50 + x) (nI (S (50 + x) + y)) := by
          have c3 : w3 = q_wI w 57 (54 + x) (nI (S (54 + x) + y)) := by
            rw [e3]
            show q_wI w 57 (54 + x) (w.1 57 (54 + x) + nI y) = _
            rw [c54, nI_add]
          rw [e4]
          show q_wI w3 57 (50 + x) (w3.1 57 (50 + x) + nI y) = _
          rw [c3, rd_j (by omega), c50, nI_add]
        rw [s_Ii]
        refine ⟨rfl, ?_⟩
        rw [s_Ii, e4]
        exact h1 (by omega) _ (((fr.refl (aR 56) w).put (aR_s 56 _)).put (aR_s 56 _)) ((hw.put (by omega) (pm_54 hx)).put (by omega) (pm_50 hx))
      · rw [s_Ii]
        refine ⟨rfl, ?_⟩
        rw [s_Ii]
        exact h0 (by omega)
    have rin : ∀ d (w : q_Sm) (Q : Int32 → q_Sm → Prop) X, RE T C n w → rR 105 S w → (S (54 + x) + y ≤ T 4 x → ∀ u, fr aS w u → rR 105 (boS S x y) u → Q (nI 1) u) → (¬ S (54 + x) + y ≤ T 4 x → Q (nI 0) w) → s_EvI (d + 8) 0 mX12_goes w [.ref 79, .int (nI 2), .int (nI x), .int (nI y)] Q X := by
      intro d w Q X hE hw h1 h0
      have c4 : w.1 93 x = nI (T 4 x) := hE.2.1.2.2.2.2.2.1 x hx
      apply eX12_goes
      unfold vX12_goes_0
      refine ⟨fun _ => ⟨fun _ => ⟨fun _ => ⟨fun z => absurd rfl z, fun _ => ?_⟩, fun z => absurd (by decide) z⟩, fun z => absurd (by decide) z⟩, fun z => absurd (by decide) z⟩
      rw [a54, a50, nI_clamp (by omega), nI_clamp (by omega), nI_clamp (by omega), c4, hw (54 + x) (by omega), nI_add, nI_leI (by omega) (by omega)]
      refine ⟨(vp_nI (by omega)).mpr (by omega), (vp_nI (by omega)).mpr hx, fun z => ⟨(vp_nI (by omega)).mpr (by omega), (vp_nI (by omega)).mpr (by omega), ?_⟩, fun z => ?_⟩
      · intro w5 e5
        refine ⟨(vp_nI (by omega)).mpr (by omega), (vp_nI (by omega)).mpr (by omega), ?_⟩
        intro w6 e6
        rw [e5, rd_j (by omega), hw (50 + x) (by omega), nI_add] at e6
        rw [s_Ii, e6]
        exact h1 z _ (((fr.refl aS w).put rfl).put rfl) hw.put.put
      · rw [s_Ii]
        exact h0 z
    by_cases hc : S (54 + x) + y ≤ T 4 x
    · exact ⟨1, boS S x y, by omega, okr_bo ht hS hx hc, fun d o l β i w Q X hE hw hi h53 h54 h55 h => kin d o l β i w Q X hE hw hi h53 h54 h55 (fun _ => h) (fun q => absurd hc q), fun d w Q X hE hw h => rin d w Q X hE hw (fun _ => h) (fun q => absurd hc q)⟩
    · exact ⟨0, S, by omega, hS, fun d o l β i w Q X hE hw hi h53 h54 h55 h => kin d o l β i w Q X hE hw hi h53 h54 h55 (fun q => absurd q hc) (fun _ => h w (fr.refl _ _) hw), fun d w Q X hE hw h => rin d w Q X hE hw (fun q => absurd q hc) (fun _ => h w (fr.refl _ _) hw)⟩
  · have hx3 := hr.1 x hx
    have a10 : (10 : Int32) + nI x = nI (10 + x) := by rw [show (10 : Int32) = nI 10 from rfl, nI_add]
    have a0 : (0 : Int32) + nI x = nI x := by rw [show (0 : Int32) = nI 0 from rfl, nI_add, Nat.zero_add]
    have kin : ∀ d o l β i (w : q_Sm) (Q : Int32 → q_Sm → Prop) X, KE o l T β C n w → cR 57 S w → i < 150 → w.1 53 i = nI 3 → w.1 54 i = nI x → w.1 55 i = nI y → (S x ≠ 0 ∧ S (10 + x) ≠ y → ∀ u, fr (aR 56) w u → cR 57 (up S (10 + x) y) u → Q (nI 1) u) → (¬ (S x ≠ 0 ∧ S (10 + x) ≠ y) → Q (nI 0) w) → s_EvI (d + 6) 0 mX9_isDone w [.ref 52, .int (nI i), .ref 56, .ref o, .ref l] Q X := by
      intro d o l β i w Q X hE hw hi h53 h54 h55 h1 h0
      have s57 : (q_sh (56 + 1)).2 = 59 := rfl
      apply eX9_isDone
      unfold vX9_isDone_0
      rw [nI_clamp (by omega), h53, h54, h55]
      have vi : vp_in (nI i) 150 := (vp_nI (by omega)).mpr hi
      refine ⟨vi, fun z => absurd z (by decide), fun z => absurd z (by decide), fun z => absurd z (by decide), fun z => absurd z (by decide), fun _ => ⟨vi, vi, q_id_of rfl, ?_⟩⟩
      apply eX6_handOn
      unfold vX6_handOn_0
      rw [a10, nI_clamp (by omega), s57]
      refine ⟨q_id_of rfl, K_owed (d := d + 3) (Or.inl rfl) hw (by omega) ⟨fun z => ?_, fun z => ⟨q_id_of rfl, K_holder (d := d + 3) (Or.inl rfl) hw (by omega) ⟨fun z2 => ⟨q_id_of rfl, q_id_of rfl, (vp_nI (by omega)).mpr (by omega), ?_⟩, fun z2 => ?_⟩⟩⟩⟩
      · rw [s_Ii]
        refine ⟨rfl, ?_⟩
        rw [s_Ii]
        rw [L_0, nI_eq (by omega) (by omega)] at z
        exact h0 (fun q => q.1 z)
      · intro w5 e5
        rw [s_Ii]
        refine ⟨rfl, ?_⟩
        rw [s_Ii, e5]
        rw [L_0, nI_eq (by omega) (by omega)] at z
        rw [nI_eq (by omega) (by omega)] at z2
        exact h1 ⟨z, z2⟩ _ ((fr.refl (aR 56) w).put (aR_s 56 _)) (hw.put (by omega) (pm_0 (by omega)))
      · rw [s_Ii]
        refine ⟨rfl, ?_⟩
        rw [s_Ii]
        have z2 := Decidable.not_not.mp z2
        rw [nI_eq (by omega) (by omega)] at z2
        exact h0 (fun q => q.2 z2)
    have rin : ∀ d (w : q_Sm) (Q : Int32 → q_Sm → Prop) X, RE T C n w → rR 105 S w → (S x ≠ 0 ∧ S (10 + x) ≠ y → ∀ u, fr aS w u → rR 105 (up S (10 + x) y) u → Q (nI 1) u) → (¬ (S x ≠ 0 ∧ S (10 + x) ≠ y) → Q (nI 0) w) → s_EvI (d + 8) 0 mX12_goes w [.ref 79, .int (nI 3), .int (nI x), .int (nI y)] Q X := by
      intro d w Q X hE hw h1 h0
      apply eX12_goes
      unfold vX12_goes_0
      refine ⟨fun _ => ⟨fun _ => ⟨fun _ => ⟨fun _ => ?_, fun z => absurd (by decide) z⟩, fun z => absurd (by decide) z⟩, fun z => absurd (by decide) z⟩, fun z => absurd (by decide) z⟩
      rw [a10, a0, nI_clamp (by omega), nI_clamp (by omega), hw (10 + x) (by omega), hw x (by omega), nI_eq (by omega) (by omega), L_0, nI_eq (by omega) (by omega)]
      refine ⟨(vp_nI (by omega)).mpr (by omega), fun z => ?_, fun z => ⟨(vp_nI (by omega)).mpr (by omega), fun z2 => ⟨(vp_nI (by omega)).mpr (by omega), ?_⟩, fun z2 => ?_⟩⟩
      · rw [s_Ii]
        exact h0 (fun q => q.2 z)
      · intro w1 e1
        rw [s_Ii, e1]
        exact h1 ⟨z2, z⟩ _ ((fr.refl aS w).put rfl) hw.put
      · rw [s_Ii]
        exact h0 (fun q => z2 q.1)
    by_cases hc : S x ≠ 0 ∧ S (10 + x) ≠ y
    · exact ⟨1, up S (10 + x) y, by omega, okr_ha ht hS hx hy, fun d o l β i w Q X hE hw hi h53 h54 h55 h => kin d o l β i w Q X hE hw hi h53 h54 h55 (fun _ => h) (fun q => absurd hc q), fun d w Q X hE hw h => rin d w Q X hE hw (fun _ => h) (fun q => absurd hc q)⟩
    · exact ⟨0, S, by omega, hS, fun d o l β i w Q X hE hw hi h53 h54 h55 h => kin d o l β i w Q X hE hw hi h53 h54 h55 (fun q => absurd q hc) (fun _ => h w (fr.refl _ _) hw), fun d w Q X hE hw h => rin d w Q X hE hw (fun q => absurd q hc) (fun _ => h w (fr.refl _ _) hw)⟩
  · have kin : ∀ d o l β i (w : q_Sm) (Q : Int32 → q_Sm → Prop) X, KE o l T β C n w → cR 57 S w → i < 150 → w.1 53 i = nI 4 → (S 62 ≠ 200 → ∀ u, fr (aR 56) w u → cR 57 (psS T C n S) u → Q (nI 1) u) → (S 62 = 200 → Q (nI 0) w) → s_EvI (d + 6) 0 mX9_isDone w [.ref 52, .int (nI i), .ref 56, .ref o, .ref l] Q X := by
      intro d o l β i w Q X hE hw hi h53 h1 h0
      apply eX9_isDone
      unfold vX9_isDone_0
      rw [nI_clamp (by omega), h53]
      have vi : vp_in (nI i) 150 := (vp_nI (by omega)).mpr hi
      refine ⟨vi, fun _ => ⟨q_id_of rfl, K_pass (d := d + 1) hE (Or.inl rfl) hw hr hS.1.2 (fun z u fu ru => ⟨rfl, ?_⟩) (fun z => ⟨rfl, ?_⟩)⟩, fun z => absurd z (by decide), fun z => absurd z (by decide), fun z => absurd z (by decide), fun z => absurd z (by decide)⟩
      · rw [s_Ii]
        exact h1 z u fu ru
      · rw [s_Ii]
        exact h0 z
    have rin : ∀ d (w : q_Sm) (Q : Int32 → q_Sm → Prop) X, RE T C n w → rR 105 S w → (S 62 ≠ 200 → ∀ u, fr aS w u → rR 105 (psS T C n S) u → Q (nI 1) u) → (S 62 = 200 → Q (nI 0) w) → s_EvI (d + 8) 0 mX12_goes w [.ref 79, .int (nI 4), .int (nI x), .int (nI y)] Q X := by
      intro d w Q X hE hw h1 h0
      apply eX12_goes
      unfold vX12_goes_0
      refine ⟨fun z => absurd rfl z, fun _ => r_goesNext (d := d + 1) hE hw hr (fun z u fu ru => ⟨rfl, ?_⟩) (fun z => ⟨rfl, ?_⟩)⟩
      · rw [s_Ii]
        exact h1 z u fu ru
      · rw [s_Ii]
        exact h0 z
    by_cases hc : S 62 = 200
    · exact ⟨0, S, by omega, hS, fun d o l β i w Q X hE hw hi h53 h54 h55 h => kin d o l β i w Q X hE hw hi h53 (fun q => absurd hc q) (fun _ => h w (fr.refl _ _) hw), fun d w Q X hE hw h => rin d w Q X hE hw (fun q => absurd hc q) (fun _ => h w (fr.refl _ _) hw)⟩
    · exact ⟨1, psS T C n S, by omega, okr_ps ht hS hc, fun d o l β i w Q X hE hw hi h53 h54 h55 h => kin d o l β i w Q X hE hw hi h53 (fun _ => h) (fun q => absurd q hc), fun d w Q X hE hw h => rin d w Q X hE hw (fun _ => h) (fun q => absurd q hc)⟩
