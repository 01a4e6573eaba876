/-! the class reads clauses -/
theorem orf_a (f g h : Option (Nat × Nat)) : orf (orf f g) h = orf f (orf g h) := by cases f <;> rfl
noncomputable def crR1 (N : Nat) (Y : Nat → Nat) (T : Tb) (a : Nat) : Option (Nat × Nat) × Nat × Nat := num N Y 0 19 a
noncomputable def crR2 (N : Nat) (Y : Nat → Nat) (T : Tb) (a : Nat) : Option (Nat × Nat) × Nat × Nat := num N Y 0 20 (crR1 N Y T a).2.2
noncomputable def crF (N : Nat) (Y : Nat → Nat) (T : Tb) (a : Nat) : Option (Nat × Nat) := (orf (crR1 N Y T a).1 (crR2 N Y T a).1)
noncomputable def crA (N : Nat) (Y : Nat → Nat) (T : Tb) (a : Nat) : Nat := (crR2 N Y T a).2.2
noncomputable def crT (N : Nat) (Y : Nat → Nat) (T : Tb) (a : Nat) : Tb := tCred T (crR1 N Y T a).2.1 (crR2 N Y T a).2.1
theorem K_rdcr {d N a o : Nat} {Y : Nat → Nat} {T : Tb} {X : s_Xo} {f : Option (Nat × Nat)} {w : q_Sm} {Q : q_Sm → Prop} (ho : o = 4 ∨ o = 20) (ht : tb T) (hr : f = none → T 7 0 < 6) (hT : tC N Y a w) (hf : fC f w) (hD : cD o T w)
    (h : ∀ u, fr (aCo o) w u → tC N Y (crA N Y T a) u → fC (orf f (crF N Y T a)) u → (orf f (crF N Y T a) = none → cD o (crT N Y T a) u) → (orf f (crF N Y T a) ≠ none → cD o T u) → Q u) : s_EvV (d + 3) 0 mX2_readCreditor w [.ref o, .ref 2] Q X := by
  apply eX2_readCreditor
  unfold vX2_readCreditor_0
  refine K_number (d := d + 0) (lo := 0) (hi := 19) (by decide) (by decide) hT hf (fun u1 f1 t1 ff1 _ => ?_)
  refine K_number (d := d + 0) (lo := 0) (hi := 20) (by decide) (by decide) t1 ff1 (fun u2 f2 t2 ff2 _ => ?_)
  simp only [orf_a] at ff2
  have tu : tC N Y (crA N Y T a) u2 := t2
  have ffu : fC (orf f (crF N Y T a)) u2 := ff2
  have fu := (f1.trans f2)
  have du := hD.T ho fu
  refine K_failed ffu (fun z => ⟨fun _ => ?_, fun z => absurd (by decide) z⟩) (fun z => ⟨fun z => absurd rfl z, fun _ => ⟨ia_0 ho, ?_⟩⟩)
  · rw [s_Vn]
    exact h u2 (aCo_T fu) tu ffu (fun q => absurd q z) (fun _ => du)
  have hc := hr (orf_nn.mp z).1
  have hcu : u2.1 o 0 = nI (T 7 0) := du.1.1
  rw [hcu, L_6, nI_leI (by omega) (by omega), nI_clamp (by omega), za_1 ho]
  refine ⟨fun z => absurd z (by omega), fun _ => ⟨ia_0 ho, ia_0 ho, ia_1 ho, (vp_nI (by omega)).mpr hc, ?_⟩⟩
  rintro _ rfl
  rw [rd_i (show o ≠ o + 1 by omega), hcu, nI_clamp (by omega), za_2 ho]
  refine ⟨ia_0 ho, ia_0 ho, ia_2 ho, (vp_nI (by omega)).mpr hc, ?_⟩
  rintro _ rfl
  rw [rd_i (show o ≠ o + 2 by omega), rd_i (show o ≠ o + 1 by omega), hcu, nI_1]
  refine ⟨ia_0 ho, ia_0 ho, ?_⟩
  intro w9 e9
  rw [s_Vn]
  have g : ∀ i j, ¬ (i = o ∧ j = 0) → ¬ (i = o + 1 ∧ j = T 7 0) → ¬ (i = o + 2 ∧ j = T 7 0) → w9.1 i j = u2.1 i j := fun i j q0 q1 q2 => by rw [e9, rd_ne q0, rd_ne q2, rd_ne q1]
  have g2 : ∀ i j, i = 2 ∨ i = 3 → w9.1 i j = u2.1 i j := fun i j q => g i j (by omega) (by omega) (by omega)
  refine h w9 ((aCo_T fu).trans (by rw [e9]; exact ((fr.wr (aCo_i (by omega) (by omega))).put (aCo_i (by omega) (by omega))).put (aCo_i (by omega) (by omega)))) (tu.g g2) (ffu.g g2) (fun _ => ?_) (fun q => absurd z q)
  obtain ⟨⟨a1, a2, a3, a4, a5⟩, ⟨b1, b2⟩, ⟨c1, c2, c3, c4, c5⟩, e1, e2, e3, ⟨p1, p2, p3⟩, g6⟩ := du
  refine ⟨⟨?_, (g _ _ (by omega) (by omega) (by omega)).trans a2, (g _ _ (by omega) (by omega) (by omega)).trans a3, (g _ _ (by omega) (by omega) (by omega)).trans a4, (g _ _ (by omega) (by omega) (by omega)).trans a5⟩, ⟨?_, ?_⟩, ⟨c1.eq (fun j => g _ _ (by omega) (by omega) (by omega)), c2.eq (fun j => g _ _ (by omega) (by omega) (by omega)), c3.eq (fun j => g _ _ (by omega) (by omega) (by omega)), c4.eq (fun j => g _ _ (by omega) (by omega) (by omega)), c5.eq (fun j => g _ _ (by omega) (by omega) (by omega))⟩, e1.eq (fun j => g _ _ (by omega) (by omega) (by omega)), e2.eq (fun j => g _ _ (by omega) (by omega) (by omega)), e3.eq (fun j => g _ _ (by omega) (by omega) (by omega)), ⟨p1.eq (fun j => g _ _ (by omega) (by omega) (by omega)), p2.eq (fun j => g _ _ (by omega) (by omega) (by omega)), p3.eq (fun j => g _ _ (by omega) (by omega) (by omega))⟩, g6.eq (fun j => g _ _ (by omega) (by omega) (by omega))⟩
  · show w9.1 o 0 = nI (T 7 0 + 1)
    rw [e9, rd_s]
  · refine holds_1 b1 (fun j hj => g _ _ (by omega) (by omega) (by omega)) (fun j hj => ?_) ?_
    · show up (up (T 0) (2 * T 7 0) (crR1 N Y T a).2.1) (2 * T 7 0 + 1) (crR2 N Y T a).2.1 (2 * j) = T 0 (2 * j)
      rw [up_n (by omega), up_n (by omega)]
    · show w9.1 (o + 1) (T 7 0) = nI (up (up (T 0) (2 * T 7 0) (crR1 N Y T a).2.1) (2 * T 7 0 + 1) (crR2 N Y T a).2.1 (2 * T 7 0))
      rw [up_n (by omega), up_s, e9, rd_i (by omega), rd_i (by omega), rd_s]
      rfl
  · refine holds_1 b2 (fun j hj => g _ _ (by omega) (by omega) (by omega)) (fun j hj => ?_) ?_
    · show up (up (T 0) (2 * T 7 0) (crR1 N Y T a).2.1) (2 * T 7 0 + 1) (crR2 N Y T a).2.1 (2 * j + 1) = T 0 (2 * j + 1)
      rw [up_n (by omega), up_n (by omega)]
    · show w9.1 (o + 2) (T 7 0) = nI (up (up (T 0) (2 * T 7 0) (crR1 N Y T a).2.1) (2 * T 7 0 + 1) (crR2 N Y T a).2.1 (2 * T 7 0 + 1))
      rw [up_s, e9, rd_i (by omega), rd_s]
      rfl
noncomputable def dbR1 (N : Nat) (Y : Nat → Nat) (T : Tb) (a : Nat) : Option (Nat × Nat) × Nat × Nat := numH N Y 0 (T 7 0) a
noncomputable def dbR2 (N : Nat) (Y : Nat → Nat) (T : Tb) (a : Nat) : Option (Nat × Nat) × Nat × Nat := col N Y (dbR1 N Y T a).2.2
noncomputable def dbR3 (N : Nat) (Y : Nat → Nat) (T : Tb) (a : Nat) : Option (Nat × Nat) × Nat × Nat := num N Y 1 99 (dbR2 N Y T a).2.2
noncomputable def dbR4 (N : Nat) (Y : Nat → Nat) (T : Tb) (a : Nat) : Option (Nat × Nat) × Nat × Nat := num N Y 0 16 (dbR3 N Y T a).2.2
noncomputable def dbR5 (N : Nat) (Y : Nat → Nat) (T : Tb) (a : Nat) : Option (Nat × Nat) × Nat × Nat := num N Y 0 60 (dbR4 N Y T a).2.2
noncomputable def dbF (N : Nat) (Y : Nat → Nat) (T : Tb) (a : Nat) : Option (Nat × Nat) := (orf (dbR1 N Y T a).1 (orf (dbR2 N Y T a).1 (orf (dbR3 N Y T a).1 (orf (dbR4 N Y T a).1 (dbR5 N Y T a).1))))
noncomputable def dbA (N : Nat) (Y : Nat → Nat) (T : Tb) (a : Nat) : Nat := (dbR5 N Y T a).2.2
noncomputable def dbT (N : Nat) (Y : Nat → Nat) (T : Tb) (a : Nat) : Tb := tDebt T (dbR1 N Y T a).2.1 (dbR2 N Y T a).2.1 (dbR3 N Y T a).2.1 (dbR4 N Y T a).2.1 (dbR5 N Y T a).2.1
theorem K_rddb {d N a o : Nat} {Y : Nat → Nat} {T : Tb} {X : s_Xo} {f : Option (Nat × Nat)} {w : q_Sm} {Q : q_Sm → Prop} (ho : o = 4 ∨ o = 20) (ht : tb T) (hr : f = none → T 7 1 < 10) (hT : tC N Y a w) (hf : fC f w) (hD : cD o T w)
    (h : ∀ u, fr (aCo o) w u → tC N Y (dbA N Y T a) u → fC (orf f (dbF N Y T a)) u → (orf f (dbF N Y T a) = none → cD o (dbT N Y T a) u) → (orf f (dbF N Y T a) ≠ none → cD o T u) → Q u) : s_EvV (d + 7) 0 mX2_readDebt w [.ref o, .ref 2] Q X := by
  apply eX2_readDebt
  unfold vX2_readDebt_0
  refine ⟨ia_0 ho, ?_⟩
  rw [hD.1.1]
  refine K_numH (d := d + 4) (lo := 0) (H := T 7 0) (by decide) (fun v hv => bd_c (by have := tb_nc ht; omega) v (by omega)) hT hf (fun u1 f1 t1 ff1 _ => ?_)
  refine K_colour (d := d + 0) t1 ff1 (fun u2 f2 t2 ff2 _ => ?_)
  refine K_number (d := d + 4) (lo := 1) (hi := 99) (by decide) (by decide) t2 ff2 (fun u3 f3 t3 ff3 _ => ?_)
  refine K_number (d := d + 4) (lo := 0) (hi := 16) (by decide) (by decide) t3 ff3 (fun u4 f4 t4 ff4 _ => ?_)
  refine K_number (d := d + 4) (lo := 0) (hi := 60) (by decide) (by decide) t4 ff4 (fun u5 f5 t5 ff5 _ => ?_)
  simp only [orf_a] at ff5
  have tu : tC N Y (dbA N Y T a) u5 := t5
  have ffu : fC (orf f (dbF N Y T a)) u5 := ff5
  have fu := ((((f1.trans f2).trans f3).trans f4).trans f5)
  have du := hD.T ho fu
  refine K_failed ffu (fun z => ⟨fun _ => ?_, fun z => absurd (by decide) z⟩) (fun z => ⟨fun z => absurd rfl z, fun _ => ⟨ia_0 ho, ?_⟩⟩)
  · rw [s_Vn]
    exact h u5 (aCo_T fu) tu ffu (fun q => absurd q z) (fun _ => du)
  have hc := hr (orf_nn.mp z).1
  have hcu : u5.1 o 3 = nI (T 7 1) := du.1.2.1
  rw [hcu, L_10, nI_leI (by omega) (by omega), nI_clamp (by omega), za_3 ho]
  refine ⟨fun z => absurd z (by omega), fun _ => ⟨ia_0 ho, ia_0 ho, ia_3 ho, (vp_nI (by omega)).mpr hc, ?_⟩⟩
  rintro _ rfl
  rw [rd_i (show o ≠ o + 3 by omega), hcu, nI_clamp (by omega), za_4 ho]
  refine ⟨ia_0 ho, ia_0 ho, ia_4 ho, (vp_nI (by omega)).mpr hc, ?_⟩
  rintro _ rfl
  rw [rd_i (show o ≠ o + 4 by omega), rd_i (show o ≠ o + 3 by omega), hcu, nI_clamp (by omega), za_5 ho]
  refine ⟨ia_0 ho, ia_0 ho, ia_5 ho, (vp_nI (by omega)).mpr hc, ?_⟩
  rintro _ rfl
  rw [rd_i (show o ≠ o + 5 by omega), rd_i (show o ≠ o + 4 by omega), rd_i (show o ≠ o + 3 by omega), hcu, nI_clamp (by omega), za_6 ho]
  refine ⟨ia_0 ho, ia_0 ho, ia_6 ho, (vp_nI (by omega)).mpr hc, ?_⟩
  rintro _ rfl
  rw [rd_i (show o ≠ o + 6 by omega), rd_i (show o ≠ o + 5 by omega), rd_i (show o ≠ o + 4 by omega), rd_i (show o ≠ o + 3 by omega), hcu, nI_clamp (by omega), za_7 ho]
  refine ⟨ia_0 ho, ia_0 ho, ia_7 ho, (vp_nI (by omega)).mpr hc, ?_⟩
  rintro _ rfl
  rw [rd_i (show o ≠ o + 7 by omega), rd_i (show o ≠ o + 6 by omega), rd_i (show o ≠ o + 5 by omega), rd_i (show o ≠ o + 4 by omega), rd_i (show o ≠ o + 3 by omega), hcu, nI_1]
  refine ⟨ia_0 ho, ia_0 ho, ?_⟩
  intro w9 e9
  rw [s_Vn]
  have g : ∀ i j, ¬ (i = o ∧ j = 3) → ¬ (i = o + 3 ∧ j = T 7 1) → ¬ (i = o + 4 ∧ j = T 7 1) → ¬ (i = o + 5 ∧ j = T 7 1) → ¬ (i = o + 6 ∧ j = T 7 1) → ¬ (i = o + 7 ∧ j = T 7 1) → w9.1 i j = u5.1 i j := fun i j q0 q1 q2 q3 q4 q5 => by rw [e9, rd_ne q0, rd_ne q5, rd_ne q4, rd_ne q3, rd_ne q2, rd_ne q1]
  have g2 : ∀ i j, i = 2 ∨ i = 3 → w9.1 i j = u5.1 i j := fun i j q => g i j (by omega) (by omega) (by omega) (by omega) (by omega) (by omega)
  refine h w9 ((aCo_T fu).trans (by rw [e9]; exact (((((fr.wr (aCo_i (by omega) (by omega))).put (aCo_i (by omega) (by omega))).put (aCo_i (by omega) (by omega))).put (aCo_i (by omega) (by omega))).put (aCo_i (by omega) (by omega))).put (aCo_i (by omega) (by omega)))) (tu.g g2) (ffu.g g2) (fun _ => ?_) (fun q => absurd z q)
  obtain ⟨⟨a1, a2, a3, a4, a5⟩, ⟨b1, b2⟩, ⟨c1, c2, c3, c4, c5⟩, e1, e2, e3, ⟨p1, p2, p3⟩, g6⟩ := du
  refine ⟨⟨(g _ _ (by omega) (by omega) (by omega) (by omega) (by omega) (by omega)).trans a1, ?_, (g _ _ (by omega) (by omega) (by omega) (by omega) (by omega) (by omega)).trans a3, (g _ _ (by omega) (by omega) (by omega) (by omega) (by omega) (by omega)).trans a4, (g _ _ (by omega) (by omega) (by omega) (by omega) (by omega) (by omega)).trans a5⟩, ⟨b1.eq (fun j => g _ _ (by omega) (by omega) (by omega) (by omega) (by omega) (by omega)), b2.eq (fun j => g _ _ (by omega) (by omega) (by omega) (by omega) (by omega) (by omega))⟩, ⟨?_, ?_, ?_, ?_, ?_⟩, e1.eq (fun j => g _ _ (by omega) (by omega) (by omega) (by omega) (by omega) (by omega)), e2.eq (fun j => g _ _ (by omega) (by omega) (by omega) (by omega) (by omega) (by omega)), e3.eq (fun j => g _ _ (by omega) (by omega) (by omega) (by omega) (by omega) (by omega)), ⟨p1.eq (fun j => g _ _ (by omega) (by omega) (by omega) (by omega) (by omega) (by omega)), p2.eq (fun j => g _ _ (by omega) (by omega) (by omega) (by omega) (by omega) (by omega)), p3.eq (fun j => g _ _ (by omega) (by omega) (by omega) (by omega) (by omega) (by omega))⟩, g6.eq (fun j => g _ _ (by omega) (by omega) (by omega) (by omega) (by omega) (by omega))⟩
  · show w9.1 o 3 = nI (T 7 1 + 1)
    rw [e9, rd_s]
  · refine holds_1 c1 (fun j hj => g _ _ (by omega) (by omega) (by omega) (by omega) (by omega) (by omega)) (fun j hj => ?_) ?_
    · show up (up (up (up (up (T 1) (5 * T 7 1) (dbR1 N Y T a).2.1) (5 * T 7 1 + 1) (dbR2 N Y T a).2.1) (5 * T 7 1 + 2) (dbR3 N Y T a).2.1) (5 * T 7 1 + 3) (dbR4 N Y T a).2.1) (5 * T 7 1 + 4) (dbR5 N Y T a).2.1 (5 * j) = T 1 (5 * j)
      rw [up_n (by omega), up_n (by omega), up_n (by omega), up_n (by omega), up_n (by omega)]
    · show w9.1 (o + 3) (T 7 1) = nI (up (up (up (up (up (T 1) (5 * T 7 1) (dbR1 N Y T a).2.1) (5 * T 7 1 + 1) (dbR2 N Y T a).2.1) (5 * T 7 1 + 2) (dbR3 N Y T a).2.1) (5 * T 7 1 + 3) (dbR4 N Y T a).2.1) (5 * T 7 1 + 4) (dbR5 N Y T a).2.1 (5 * T 7 1))
      rw [up_n (by omega), up_n (by omega), up_n (by omega), up_n (by omega), up_s, e9, rd_i (by omega), rd_i (by omega), rd_i (by omega), rd_i (by omega), rd_i (by omega), rd_s]
      rfl
  · refine holds_1 c2 (fun j hj => g _ _ (by omega) (by omega) (by omega) (by omega) (by omega) (by omega)) (fun j hj => ?_) ?_
    · show up (up (up (up (up (T 1) (5 * T 7 1) (dbR1 N Y T a).2.1) (5 * T 7 1 + 1) (dbR2 N Y T a).2.1) (5 * T 7 1 + 2) (dbR3 N Y T a).2.1) (5 * T 7 1 + 3) (dbR4 N Y T a).2.1) (5 * T 7 1 + 4) (dbR5 N Y T a).2.1 (5 * j + 1) = T 1 (5 * j + 1)
      rw [up_n (by omega), up_n (by omega), up_n (by omega), up_n (by omega), up_n (by omega)]
    · show w9.1 (o + 4) (T 7 1) = nI (up (up (up (up (up (T 1) (5 * T 7 1) (dbR1 N Y T a).2.1) (5 * T 7 1 + 1) (dbR2 N Y T a).2.1) (5 * T 7 1 + 2) (dbR3 N Y T a).2.1) (5 * T 7 1 + 3) (dbR4 N Y T a).2.1) (5 * T 7 1 + 4) (dbR5 N Y T a).2.1 (5 * T 7 1 + 1))
      rw [up_n (by omega), up_n (by omega), up_n (by omega), up_s, e9, rd_i (by omega), rd_i (by omega), rd_i (by omega), rd_i (by omega), rd_s]
      rfl
  · refine holds_1 c3 (fun j hj => g _ _ (by omega) (by omega) (by omega) (by omega) (by omega) (by omega)) (fun j hj => ?_) ?_
    · show up (up (up (up (up (T 1) (5 * T 7 1) (dbR1 N Y T a).2.1) (5 * T 7 1 + 1) (dbR2 N Y T a).2.1) (5 * T 7 1 + 2) (dbR3 N Y T a).2.1) (5 * T 7 1 + 3) (dbR4 N Y T a).2.1) (5 * T 7 1 + 4) (dbR5 N Y T a).2.1 (5 * j + 2) = T 1 (5 * j + 2)
      rw [up_n (by omega), up_n (by omega), up_n (by omega), up_n (by omega), up_n (by omega)]
    · show w9.1 (o + 5) (T 7 1) = nI (up (up (up (up (up (T 1) (5 * T 7 1) (dbR1 N Y T a).2.1) (5 * T 7 1 + 1) (dbR2 N Y T a).2.1) (5 * T 7 1 + 2) (dbR3 N Y T a).2.1) (5 * T 7 1 + 3) (dbR4 N Y T a).2.1) (5 * T 7 1 + 4) (dbR5 N Y T a).2.1 (5 * T 7 1 + 2))
      rw [up_n (by omega), up_n (by omega), up_s, e9, rd_i (by omega), rd_i (by omega), rd_i (by omega), rd_s]
      rfl
  · refine holds_1 c4 (fun j hj => g _ _ (by omega) (by omega) (by omega) (by omega) (by omega) (by omega)) (fun j hj => ?_) ?_
    · show up (up (up (up (up (T 1) (5 * T 7 1) (dbR1 N Y T a).2.1) (5 * T 7 1 + 1) (dbR2 N Y T a).2.1) (5 * T 7 1 + 2) (dbR3 N Y T a).2.1) (5 * T 7 1 + 3) (dbR4 N Y T a).2.1) (5 * T 7 1 + 4) (dbR5 N Y T a).2.1 (5 * j + 3) = T 1 (5 * j + 3)
      rw [up_n (by omega), up_n (by omega), up_n (by omega), up_n (by omega), up_n (by omega)]
    · show w9.1 (o + 6) (T 7 1) = nI (up (up (up (up (up (T 1) (5 * T 7 1) (dbR1 N Y T a).2.1) (5 * T 7 1 + 1) (dbR2 N Y T a).2.1) (5 * T 7 1 + 2) (dbR3 N Y T a).2.1) (5 * T 7 1 + 3) (dbR4 N Y T a).2.1) (5 * T 7 1 + 4) (dbR5 N Y T a).2.1 (5 * T 7 1 + 3))
      rw [up_n (by omega), up_s, e9, rd_i (by omega), rd_i (by omega), rd_s]
      rfl
  · refine holds_1 c5 (fun j hj => g _ _ (by omega) (by omega) (by omega) (by omega) (by omega) (by omega)) (fun j hj => ?_) ?_
    · show up (up (up (up (up (T 1) (5 * T 7 1) (dbR1 N Y T a).2.1) (5 * T 7 1 + 1) (dbR2 N Y T a).2.1) (5 * T 7 1 + 2) (dbR3 N Y T a).2.1) (5 * T 7 1 + 3) (dbR4 N Y T a).2.1) (5 * T 7 1 + 4) (dbR5 N Y T a).2.1 (5 * j + 4) = T 1 (5 * j + 4)
      rw [up_n (by omega), up_n (by omega), up_n (by omega), up_n (by omega), up_n (by omega)]
    · show w9.1 (o + 7) (T 7 1) = nI (up (up (up (up (up (T 1) (5 * T 7 1) (dbR1 N Y T a).2.1) (5 * T 7 1 + 1) (dbR2 N Y T a).2.1) (5 * T 7 1 + 2) (dbR3 N Y T a).2.1) (5 * T 7 1 + 3) (dbR4 N Y T a).2.1) (5 * T 7 1 + 4) (dbR5 N Y T a).2.1 (5 * T 7 1 + 4))
      rw [up_s, e9, rd_i (by omega), rd_s]
      rfl
noncomputable def wdR1 (N : Nat) (Y : Nat → Nat) (T : Tb) (a : Nat) : Option (Nat × Nat) × Nat × Nat := col N Y a
noncomputable def wdR2 (N : Nat) (Y : Nat → Nat) (T : Tb) (a : Nat) : Option (Nat × Nat) × Nat × Nat := num N Y 1 40 (wdR1 N Y T a).2.2
noncomputable def wdR3 (N : Nat) (Y : Nat → Nat) (T : Tb) (a : Nat) : Option (Nat × Nat) × Nat × Nat := num N Y 0 60 (wdR2 N Y T a).2.2
noncomputable def wdF (N : Nat) (Y : Nat → Nat) (T : Tb) (a : Nat) : Option (Nat × Nat) := (orf (wdR1 N Y T a).1 (orf (wdR2 N Y T a).1 (wdR3 N Y T a).1))
noncomputable def wdA (N : Nat) (Y : Nat → Nat) (T : Tb) (a : Nat) : Nat := (wdR3 N Y T a).2.2
noncomputable def wdT (N : Nat) (Y : Nat → Nat) (T : Tb) (a : Nat) : Tb := tWed T (wdR1 N Y T a).2.1 (wdR2 N Y T a).2.1 (wdR3 N Y T a).2.1
theorem K_rdwd {d N a o : Nat} {Y : Nat → Nat} {T : Tb} {X : s_Xo} {f : Option (Nat × Nat)} {w : q_Sm} {Q : q_Sm → Prop} (ho : o = 4 ∨ o = 20) (ht : tb T) (hr : f = none → T 7 3 < 6) (hT : tC N Y a w) (hf : fC f w) (hD : cD o T w)
    (h : ∀ u, fr (aCo o) w u → tC N Y (wdA N Y T a) u → fC (orf f (wdF N Y T a)) u → (orf f (wdF N Y T a) = none → cD o (wdT N Y T a) u) → (orf f (wdF N Y T a) ≠ none → cD o T u) → Q u) : s_EvV (d + 7) 0 mX2_readWedding w [.ref o, .ref 2] Q X := by
  apply eX2_readWedding
  unfold vX2_readWedding_0
  refine K_colour (d := d + 0) hT hf (fun u1 f1 t1 ff1 _ => ?_)
  refine K_number (d := d + 4) (lo := 1) (hi := 40) (by decide) (by decide) t1 ff1 (fun u2 f2 t2 ff2 _ => ?_)
  refine K_number (d := d + 4) (lo := 0) (hi := 60) (by decide) (by decide) t2 ff2 (fun u3 f3 t3 ff3 _ => ?_)
  simp only [orf_a] at ff3
  have tu : tC N Y (wdA N Y T a) u3 := t3
  have ffu : fC (orf f (wdF N Y T a)) u3 := ff3
  have fu := ((f1.trans f2).trans f3)
  have du := hD.T ho fu
  refine K_failed ffu (fun z => ⟨fun _ => ?_, fun z => absurd (by decide) z⟩) (fun z => ⟨fun z => absurd rfl z, fun _ => ⟨ia_0 ho, ?_⟩⟩)
  · rw [s_Vn]
    exact h u3 (aCo_T fu) tu ffu (fun q => absurd q z) (fun _ => du)
  have hc := hr (orf_nn.mp z).1
  have hcu : u3.1 o 14 = nI (T 7 3) := du.1.2.2.2.1
  rw [hcu, L_6, nI_leI (by omega) (by omega), nI_clamp (by omega), za_12 ho]
  refine ⟨fun z => absurd z (by omega), fun _ => ⟨ia_0 ho, ia_0 ho, ia_12 ho, (vp_nI (by omega)).mpr hc, ?_⟩⟩
  rintro _ rfl
  rw [rd_i (show o ≠ o + 12 by omega), hcu, nI_clamp (by omega), za_13 ho]
  refine ⟨ia_0 ho, ia_0 ho, ia_13 ho, (vp_nI (by omega)).mpr hc, ?_⟩
  rintro _ rfl
  rw [rd_i (show o ≠ o + 13 by omega), rd_i (show o ≠ o + 12 by omega), hcu, nI_clamp (by omega), za_14 ho]
  refine ⟨ia_0 ho, ia_0 ho, ia_14 ho, (vp_nI (by omega)).mpr hc, ?_⟩
  rintro _ rfl
  rw [rd_i (show o ≠ o + 14 by omega), rd_i (show o ≠ o + 13 by omega), rd_i (show o ≠ o + 12 by omega), hcu, nI_1]
  refine ⟨ia_0 ho, ia_0 ho, ?_⟩
  intro w9 e9
  rw [s_Vn]
  have g : ∀ i j, ¬ (i = o ∧ j = 14) → ¬ (i = o + 12 ∧ j = T 7 3) → ¬ (i = o + 13 ∧ j = T 7 3) → ¬ (i = o + 14 ∧ j = T 7 3) → w9.1 i j = u3.1 i j := fun i j q0 q1 q2 q3 => by rw [e9, rd_ne q0, rd_ne q3, rd_ne q2, rd_ne q1]
  have g2 : ∀ i j, i = 2 ∨ i = 3 → w9.1 i j = u3.1 i j := fun i j q => g i j (by omega) (by omega) (by omega) (by omega)
  refine h w9 ((aCo_T fu).trans (by rw [e9]; exact (((fr.wr (aCo_i (by omega) (by omega))).put (aCo_i (by omega) (by omega))).put (aCo_i (by omega) (by omega))).put (aCo_i (by omega) (by omega)))) (tu.g g2) (ffu.g g2) (fun _ => ?_) (fun q => absurd z q)
  obtain ⟨⟨a1, a2, a3, a4, a5⟩, ⟨b1, b2⟩, ⟨c1, c2, c3, c4, c5⟩, e1, e2, e3, ⟨p1, p2, p3⟩, g6⟩ := du
  refine ⟨⟨(g _ _ (by omega) (by omega) (by omega) (by omega)).trans a1, (g _ _ (by omega) (by omega) (by omega) (by omega)).trans a2, (g _ _ (by omega) (by omega) (by omega) (by omega)).trans a3, ?_, (g _ _ (by omega) (by omega) (by omega) (by omega)).trans a5⟩, ⟨b1.eq (fun j => g _ _ (by omega) (by omega) (by omega) (by omega)), b2.eq (fun j => g _ _ (by omega) (by omega) (by omega) (by omega))⟩, ⟨c1.eq (fun j => g _ _ (by omega) (by omega) (by omega) (by omega)), c2.eq (fun j => g _ _ (by omega) (by omega) (by omega) (by omega)), c3.eq (fun j => g _ _ (by omega) (by omega) (by omega) (by omega)), c4.eq (fun j => g _ _ (by omega) (by omega) (by omega) (by omega)), c5.eq (fun j => g _ _ (by omega) (by omega) (by omega) (by omega))⟩, e1.eq (fun j => g _ _ (by omega) (by omega) (by omega) (by omega)), e2.eq (fun j => g _ _ (by omega) (by omega) (by omega) (by omega)), e3.eq (fun j => g _ _ (by omega) (by omega) (by omega) (by omega)), ⟨?_, ?_, ?_⟩, g6.eq (fun j => g _ _ (by omega) (by omega) (by omega) (by omega))⟩
  · show w9.1 o 14 = nI (T 7 3 + 1)
    rw [e9, rd_s]
  · refine holds_1 p1 (fun j hj => g _ _ (by omega) (by omega) (by omega) (by omega)) (fun j hj => ?_) ?_
    · show up (up (up (T 5) (3 * T 7 3) (wdR1 N Y T a).2.1) (3 * T 7 3 + 1) (wdR2 N Y T a).2.1) (3 * T 7 3 + 2) (wdR3 N Y T a).2.1 (3 * j) = T 5 (3 * j)
      rw [up_n (by omega), up_n (by omega), up_n (by omega)]
    · show w9.1 (o + 12) (T 7 3) = nI (up (up (up (T 5) (3 * T 7 3) (wdR1 N Y T a).2.1) (3 * T 7 3 + 1) (wdR2 N Y T a).2.1) (3 * T 7 3 + 2) (wdR3 N Y T a).2.1 (3 * T 7 3))
      rw [up_n (by omega), up_n (by omega), up_s, e9, rd_i (by omega), rd_i (by omega), rd_i (by omega), rd_s]
      rfl
  · refine holds_1 p2 (fun j hj => g _ _ (by omega) (by omega) (by omega) (by omega)) (fun j hj => ?_) ?_
    · show up (up (up (T 5) (3 * T 7 3) (wdR1 N Y T a).2.1) (3 * T 7 3 + 1) (wdR2 N Y T a).2.1) (3 * T 7 3 + 2) (wdR3 N Y T a).2.1 (3 * j + 1) = T 5 (3 * j + 1)
      rw [up_n (by omega), up_n (by omega), up_n (by omega)]
    · show w9.1 (o + 13) (T 7 3) = nI (up (up (up (T 5) (3 * T 7 3) (wdR1 N Y T a).2.1) (3 * T 7 3 + 1) (wdR2 N Y T a).2.1) (3 * T 7 3 + 2) (wdR3 N Y T a).2.1 (3 * T 7 3 + 1))
      rw [up_n (by omega), up_s, e9, rd_i (by omega), rd_i (by omega), rd_s]
      rfl
  · refine holds_1 p3 (fun j hj => g _ _ (by omega) (by omega) (by omega) (by omega)) (fun j hj => ?_) ?_
    · show up (up (up (T 5) (3 * T 7 3) (wdR1 N Y T a).2.1) (3 * T 7 3 + 1) (wdR2 N Y T a).2.1) (3 * T 7 3 + 2) (wdR3 N Y T a).2.1 (3 * j + 2) = T 5 (3 * j + 2)
      rw [up_n (by omega), up_n (by omega), up_n (by omega)]
    · show w9.1 (o + 14) (T 7 3) = nI (up (up (up (T 5) (3 * T 7 3) (wdR1 N Y T a).2.1) (3 * T 7 3 + 1) (wdR2 N Y T a).2.1) (3 * T 7 3 + 2) (wdR3 N Y T a).2.1 (3 * T 7 3 + 2))
      rw [up_s, e9, rd_i (by omega), rd_s]
      rfl
noncomputable def rgR1 (N : Nat) (Y : Nat → Nat) (T : Tb) (a : Nat) : Option (Nat × Nat) × Nat × Nat := num N Y 0 19 a
noncomputable def rgR2 (N : Nat) (Y : Nat → Nat) (T : Tb) (a : Nat) : Option (Nat × Nat) × Nat × Nat := num N Y 0 20 (rgR1 N Y T a).2.2
noncomputable def rgF (N : Nat) (Y : Nat → Nat) (T : Tb) (a : Nat) : Option (Nat × Nat) := orf (rgR1 N Y T a).1 (rgR2 N Y T a).1
noncomputable def rgA (N : Nat) (Y : Nat → Nat) (T : Tb) (a : Nat) : Nat := (rgR2 N Y T a).2.2
noncomputable def rgT (N : Nat) (Y : Nat → Nat) (T : Tb) (a : Nat) : Tb := tRidge T (rgR1 N Y T a).2.1 (rgR2 N Y T a).2.1
theorem K_rdrg {d N a o : Nat} {Y : Nat → Nat} {T : Tb} {X : s_Xo} {f : Option (Nat × Nat)} {w : q_Sm} {Q : q_Sm → Prop} (ho : o = 4 ∨ o = 20) (ht : tb T) (hT : tC N Y a w) (hf : fC f w) (hD : cD o T w)
    (h : ∀ u, fr (aCo o) w u → tC N Y (rgA N Y T a) u → fC (orf f (rgF N Y T a)) u → (orf f (rgF N Y T a) = none → cD o (rgT N Y T a) u) → (orf f (rgF N Y T a) ≠ none → cD o T u) → Q u) : s_EvV (d + 3) 0 mX2_readRidge w [.ref o, .ref 2] Q X := by
  have hb : (rgR1 N Y T a).2.1 < 20 := Nat.lt_succ_of_le (num_v (show 0 ≤ 19 by omega)).2
  apply eX2_readRidge
  unfold vX2_readRidge_0
  refine K_number (d := d + 0) (lo := 0) (hi := 19) (by decide) (by decide) hT hf (fun u1 f1 t1 ff1 _ => ?_)
  refine K_number (d := d + 0) (lo := 0) (hi := 20) (by decide) (by decide) t1 ff1 (fun u2 f2 t2 ff2 _ => ?_)
  simp only [orf_a] at ff2
  have tu : tC N Y (rgA N Y T a) u2 := t2
  have ffu : fC (orf f (rgF N Y T a)) u2 := ff2
  have fu := f1.trans f2
  have du := hD.T ho fu
  refine K_failed ffu (fun z => ⟨fun _ => ?_, fun z => absurd (by decide) z⟩) (fun z => ⟨fun z => absurd rfl z, fun _ => ⟨ia_0 ho, ia_10 ho, ?_⟩⟩)
  · rw [s_Vn]
    exact h u2 (aCo_T fu) tu ffu (fun q => absurd q z) (fun _ => du)
  show vp_in (nI (rgR1 N Y T a).2.1) (q_sh (o + 10)).2 ∧ ∀ w_7 : q_Sm, w_7 = q_wI u2 (o + 10) (Int32.toNatClampNeg (nI (rgR1 N Y T a).2.1)) (nI (rgR2 N Y T a).2.1) → s_V Q none w_7
  rw [za_10 ho, nI_clamp (by omega)]
  refine ⟨(vp_nI (by omega)).mpr hb, ?_⟩
  intro w9 e9
  rw [s_Vn]
  have g : ∀ i j, ¬ (i = o + 10 ∧ j = (rgR1 N Y T a).2.1) → w9.1 i j = u2.1 i j := fun i j q => by rw [e9, rd_ne q]
  have g2 : ∀ i j, i = 2 ∨ i = 3 → w9.1 i j = u2.1 i j := fun i j q => g i j (by omega)
  refine h w9 ((aCo_T fu).trans (by rw [e9]; exact fr.wr (aCo_i (by omega) (by omega)))) (tu.g g2) (ffu.g g2) (fun _ => ?_) (fun q => absurd z q)
  obtain ⟨⟨a1, a2, a3, a4, a5⟩, ⟨b1, b2⟩, ⟨c1, c2, c3, c4, c5⟩, e1, e2, e3, ⟨p1, p2, p3⟩, g6⟩ := du
  exact ⟨⟨(g _ _ (by omega)).trans a1, (g _ _ (by omega)).trans a2, (g _ _ (by omega)).trans a3, (g _ _ (by omega)).trans a4, (g _ _ (by omega)).trans a5⟩, ⟨b1.eq (fun j => g _ _ (by omega)), b2.eq (fun j => g _ _ (by omega))⟩, ⟨c1.eq (fun j => g _ _ (by omega)), c2.eq (fun j => g _ _ (by omega)), c3.eq (fun j => g _ _ (by omega)), c4.eq (fun j => g _ _ (by omega)), c5.eq (fun j => g _ _ (by omega))⟩, e1.eq (fun j => g _ _ (by omega)), holds_u e2 (fun j hj => g _ _ (by omega)) (by rw [e9, rd_s]), e3.eq (fun j => g _ _ (by omega)), ⟨p1.eq (fun j => g _ _ (by omega)), p2.eq (fun j => g _ _ (by omega)), p3.eq (fun j => g _ _ (by omega))⟩, g6.eq (fun j => g _ _ (by omega))⟩
noncomputable def lpR1 (N : Nat) (Y : Nat → Nat) (T : Tb) (a : Nat) : Option (Nat × Nat) × Nat × Nat := col N Y a
noncomputable def lpR2 (N : Nat) (Y : Nat → Nat) (T : Tb) (a : Nat) : Option (Nat × Nat) × Nat × Nat := num N Y 0 99 (lpR1 N Y T a).2.2
noncomputable def lpF (N : Nat) (Y : Nat → Nat) (T : Tb) (a : Nat) : Option (Nat × Nat) := orf (lpR1 N Y T a).1 (lpR2 N Y T a).1
noncomputable def lpA (N : Nat) (Y : Nat → Nat) (T : Tb) (a : Nat) : Nat := (lpR2 N Y T a).2.2
noncomputable def lpT (N : Nat) (Y : Nat → Nat) (T : Tb) (a : Nat) : Tb := tLamp T (lpR1 N Y T a).2.1 (lpR2 N Y T a).2.1
theorem K_rdlp {d N a o : Nat} {Y : Nat → Nat} {T : Tb} {X : s_Xo} {f : Option (Nat × Nat)} {w : q_Sm} {Q : q_Sm → Prop} (ho : o = 4 ∨ o = 20) (ht : tb T) (hT : tC N Y a w) (hf : fC f w) (hD : cD o T w)
    (h : ∀ u, fr (aCo o) w u → tC N Y (lpA N Y T a) u → fC (orf f (lpF N Y T a)) u → (orf f (lpF N Y T a) = none → cD o (lpT N Y T a) u) → (orf f (lpF N Y T a) ≠ none → cD o T u) → Q u) : s_EvV (d + 7) 0 mX2_readLamp w [.ref o, .ref 2] Q X := by
  have hb : (lpR1 N Y T a).2.1 < 4 := col_v
  apply eX2_readLamp
  unfold vX2_readLamp_0
  refine K_colour (d := d + 0) hT hf (fun u1 f1 t1 ff1 _ => ?_)
  refine K_number (d := d + 4) (lo := 0) (hi := 99) (by decide) (by decide) t1 ff1 (fun u2 f2 t2 ff2 _ => ?_)
  simp only [orf_a] at ff2
  have tu : tC N Y (lpA N Y T a) u2 := t2
  have ffu : fC (orf f (lpF N Y T a)) u2 := ff2
  have fu := f1.trans f2
  have du := hD.T ho fu
  refine K_failed ffu (fun z => ⟨fun _ => ?_, fun z => absurd (by decide) z⟩) (fun z => ⟨fun z => absurd rfl z, fun _ => ⟨ia_0 ho, ia_11 ho, ?_⟩⟩)
  · rw [s_Vn]
    exact h u2 (aCo_T fu) tu ffu (fun q => absurd q z) (fun _ => du)
  show vp_in (nI (lpR1 N Y T a).2.1) (q_sh (o + 11)).2 ∧ ∀ w_7 : q_Sm, w_7 = q_wI u2 (o + 11) (Int32.toNatClampNeg (nI (lpR1 N Y T a).2.1)) (nI (lpR2 N Y T a).2.1) → s_V Q none w_7
  rw [za_11 ho, nI_clamp (by omega)]
  refine ⟨(vp_nI (by omega)).mpr hb, ?_⟩
  intro w9 e9
  rw [s_Vn]
  have g : ∀ i j, ¬ (i = o + 11 ∧ j = (lpR1 N Y T a).2.1) → w9.1 i j = u2.1 i j := fun i j q => by rw [e9, rd_ne q]
  have g2 : ∀ i j, i = 2 ∨ i = 3 → w9.1 i j = u2.1 i j := fun i j q => g i j (by omega)
  refine h w9 ((aCo_T fu).trans (by rw [e9]; exact fr.wr (aCo_i (by omega) (by omega)))) (tu.g g2) (ffu.g g2) (fun _ => ?_) (fun q => absurd z q)
  obtain ⟨⟨a1, a2, a3, a4, a5⟩, ⟨b1, b2⟩, ⟨c1, c2, c3, c4, c5⟩, e1, e2, e3, ⟨p1, p2, p3⟩, g6⟩ := du
  exact ⟨⟨(g _ _ (by omega)).trans a1, (g _ _ (by omega)).trans a2, (g _ _ (by omega)).trans a3, (g _ _ (by omega)).trans a4, (g _ _ (by omega)).trans a5⟩, ⟨b1.eq (fun j => g _ _ (by omega)), b2.eq (fun j => g _ _ (by omega))⟩, ⟨c1.eq (fun j => g _ _ (by omega)), c2.eq (fun j => g _ _ (by omega)), c3.eq (fun j => g _ _ (by omega)), c4.eq (fun j => g _ _ (by omega)), c5.eq (fun j => g _ _ (by omega))⟩, e1.eq (fun j => g _ _ (by omega)), e2.eq (fun j => g _ _ (by omega)), holds_u e3 (fun j hj => g _ _ (by omega)) (by rw [e9, rd_s]), ⟨p1.eq (fun j => g _ _ (by omega)), p2.eq (fun j => g _ _ (by omega)), p3.eq (fun j => g _ _ (by omega))⟩, g6.eq (fun j => g _ _ (by omega))⟩
noncomputable def fgR1 (N : Nat) (Y : Nat → Nat) (T : Tb) (a : Nat) : Option (Nat × Nat) × Nat × Nat := num N Y 0 16 a
noncomputable def fgF (N : Nat) (Y : Nat → Nat) (T : Tb) (a : Nat) : Option (Nat × Nat) := (fgR1 N Y T a).1
noncomputable def fgA (N : Nat) (Y : Nat → Nat) (T : Tb) (a : Nat) : Nat := (fgR1 N Y T a).2.2
noncomputable def fgT (N : Nat) (Y : Nat → Nat) (T : Tb) (a : Nat) : Tb := tFog T (fgR1 N Y T a).2.1
theorem K_rdfg {d N a o : Nat} {Y : Nat → Nat} {T : Tb} {X : s_Xo} {f : Option (Nat × Nat)} {w : q_Sm} {Q : q_Sm → Prop} (ho : o = 4 ∨ o = 20) (ht : tb T) (hT : tC N Y a w) (hf : fC f w) (hD : cD o T w)
    (h : ∀ u, fr (aCo o) w u → tC N Y (fgA N Y T a) u → fC (orf f (fgF N Y T a)) u → (orf f (fgF N Y T a) = none → cD o (fgT N Y T a) u) → (orf f (fgF N Y T a) ≠ none → cD o T u) → Q u) : s_EvV (d + 3) 0 mX2_readFog w [.ref o, .ref 2] Q X := by
  apply eX2_readFog
  unfold vX2_readFog_0
  refine K_number (d := d) (lo := 0) (hi := 16) (by decide) (by decide) hT hf (fun u2 fu t2 ff2 _ => ?_)
  have tu : tC N Y (fgA N Y T a) u2 := t2
  have ffu : fC (orf f (fgF N Y T a)) u2 := ff2
  have du := hD.T ho fu
  refine K_failed ffu (fun z => ⟨fun _ => ?_, fun z => absurd (by decide) z⟩) (fun z => ⟨fun z => absurd rfl z, fun _ => ⟨ia_0 ho, ?_⟩⟩)
  · rw [s_Vn]
    exact h u2 (aCo_T fu) tu ffu (fun q => absurd q z) (fun _ => du)
  intro w9 e9
  rw [s_Vn]
  have g : ∀ i j, ¬ (i = o ∧ j = 18) → w9.1 i j = u2.1 i j := fun i j q => by rw [e9, rd_ne q]
  have g2 : ∀ i j, i = 2 ∨ i = 3 → w9.1 i j = u2.1 i j := fun i j q => g i j (by omega)
  refine h w9 ((aCo_T fu).trans (by rw [e9]; exact fr.wr (aCo_i (by omega) (by omega)))) (tu.g g2) (ffu.g g2) (fun _ => ?_) (fun q => absurd z q)
  obtain ⟨⟨a1, a2, a3, a4, a5⟩, ⟨b1, b2⟩, ⟨c1, c2, c3, c4, c5⟩, e1, e2, e3, ⟨p1, p2, p3⟩, g6⟩ := du
  exact ⟨⟨(g _ _ (by omega)).trans a1, (g _ _ (by omega)).trans a2, (g _ _ (by omega)).trans a3, (g _ _ (by omega)).trans a4, by rw [e9, rd_s]; rfl⟩, ⟨b1.eq (fun j => g _ _ (by omega)), b2.eq (fun j => g _ _ (by omega))⟩, ⟨c1.eq (fun j => g _ _ (by omega)), c2.eq (fun j => g _ _ (by omega)), c3.eq (fun j => g _ _ (by omega)), c4.eq (fun j => g _ _ (by omega)), c5.eq (fun j => g _ _ (by omega))⟩, e1.eq (fun j => g _ _ (by omega)), e2.eq (fun j => g _ _ (by omega)), e3.eq (fun j => g _ _ (by omega)), ⟨p1.eq (fun j => g _ _ (by omega)), p2.eq (fun j => g _ _ (by omega)), p3.eq (fun j => g _ _ (by omega))⟩, g6.eq (fun j => g _ _ (by omega))⟩
noncomputable def dkA' (N : Nat) (Y : Nat → Nat) (a : Nat) : Nat → Nat
  | 0 => a
  | k + 1 => (num N Y 0 40 (dkA' N Y a k)).2.2
noncomputable def dkF' (N : Nat) (Y : Nat → Nat) (a : Nat) : Nat → Option (Nat × Nat)
  | 0 => none
  | k + 1 => orf (dkF' N Y a k) (num N Y 0 40 (dkA' N Y a k)).1
noncomputable def dkV (N : Nat) (Y : Nat → Nat) (a : Nat) (k : Nat) : Nat := (num N Y 0 40 (dkA' N Y a k)).2.1
noncomputable def dkF (N : Nat) (Y : Nat → Nat) (T : Tb) (a : Nat) : Option (Nat × Nat) := dkF' N Y a 4
noncomputable def dkA (N : Nat) (Y : Nat → Nat) (T : Tb) (a : Nat) : Nat := dkA' N Y a 4
noncomputable def dkT (N : Nat) (Y : Nat → Nat) (T : Tb) (a : Nat) : Tb := tDusk T (dkV N Y a)
theorem K_rddk {d N a o : Nat} {Y : Nat → Nat} {T : Tb} {X : s_Xo} {f : Option (Nat × Nat)} {w : q_Sm} {Q : q_Sm → Prop} (ho : o = 4 ∨ o = 20) (ht : tb T) (hr : f = none → T 7 2 < 12) (hT : tC N Y a w) (hf : fC f w) (hD : cD o T w)
    (h : ∀ u, fr (aCo o) w u → tC N Y (dkA N Y T a) u → fC (orf f (dkF N Y T a)) u → (orf f (dkF N Y T a) = none → cD o (dkT N Y T a) u) → (orf f (dkF N Y T a) ≠ none → cD o T u) → Q u) : s_EvV (d + 3) 0 mX2_readDusk w [.ref o, .ref 2] Q X := by
  have h12 : T 7 2 ≤ 12 := ht.1.2.2.1
  have loop : ∀ j k (u : q_Sm), k + j = 4 → fr (aCo o) w u → tC N Y (dkA' N Y a k) u → fC (orf f (dkF' N Y a k)) u → cD o T u → (T 7 2 < 12 → ∀ i, i < k → u.1 (o + 9) (4 * T 7 2 + i) = nI (dkV N Y a i)) → s_Ex (d + 3) 0 mX2_readDusk 2 [some (.ref o), some (.ref 2), some (.int (nI k)), none] [] u (s_V Q) X := by
    intro j
    induction j with
    | zero =>
      intro k u hk fu tu ffu du hv
      have hk : k = 4 := by omega
      subst hk
      apply xX2_readDusk_2
      unfold vX2_readDusk_2
      have ffu : fC (orf f (dkF N Y T a)) u := ffu
      have hcu : u.1 o 10 = nI (T 7 2) := du.1.2.2.1
      refine ⟨fun _ => K_failed ffu (fun z => ⟨fun _ => ?_, fun z => absurd (by decide) z⟩) (fun z => ⟨fun z => absurd rfl z, fun _ => ⟨ia_0 ho, ?_⟩⟩), fun z => absurd (by decide) z⟩
      · rw [s_Vn]
        exact h u fu tu ffu (fun q => absurd q z) (fun _ => du)
      have hc := hr (orf_nn.mp z).1
      rw [hcu, L_12, nI_leI (by omega) (by omega), nI_1]
      refine ⟨fun z => absurd z (by omega), fun _ => ⟨ia_0 ho, ia_0 ho, ?_⟩⟩
      intro w9 e9
      rw [s_Vn]
      have g : ∀ i j, ¬ (i = o ∧ j = 10) → w9.1 i j = u.1 i j := fun i j q => by rw [e9, rd_ne q]
      have g2 : ∀ i j, i = 2 ∨ i = 3 → w9.1 i j = u.1 i j := fun i j q => g i j (by omega)
      refine h w9 (fu.trans (by rw [e9]; exact fr.wr (aCo_i (by omega) (by omega)))) (tC.g tu g2) (ffu.g g2) (fun _ => ?_) (fun q => absurd z q)
      obtain ⟨⟨a1, a2, a3, a4, a5⟩, ⟨b1, b2⟩, ⟨c1, c2, c3, c4, c5⟩, e1, e2, e3, ⟨p1, p2, p3⟩, g6⟩ := du
      refine ⟨⟨(g _ _ (by omega)).trans a1, (g _ _ (by omega)).trans a2, by rw [e9, rd_s]; rfl, (g _ _ (by omega)).trans a4, (g _ _ (by omega)).trans a5⟩, ⟨b1.eq (fun j => g _ _ (by omega)), b2.eq (fun j => g _ _ (by omega))⟩, ⟨c1.eq (fun j => g _ _ (by omega)), c2.eq (fun j => g _ _ (by omega)), c3.eq (fun j => g _ _ (by omega)), c4.eq (fun j => g _ _ (by omega)), c5.eq (fun j => g _ _ (by omega))⟩, ?_, e2.eq (fun j => g _ _ (by omega)), e3.eq (fun j => g _ _ (by omega)), ⟨p1.eq (fun j => g _ _ (by omega)), p2.eq (fun j => g _ _ (by omega)), p3.eq (fun j => g _ _ (by omega))⟩, g6.eq (fun j => g _ _ (by omega))⟩
      show holds (o + 9) (4 * (T 7 2 + 1)) (fun j => if 4 * T 7 2 ≤ j ∧ j < 4 * T 7 2 + 4 then dkV N Y a (j - 4 * T 7 2) else T 2 j) w9
      refine holds_m e1 (fun j _ => g _ _ (by omega)) (fun j hj => if_neg (by omega)) (fun j h1 h2 => ?_)
      show w9.1 (o + 9) j = nI (if 4 * T 7 2 ≤ j ∧ j < 4 * T 7 2 + 4 then dkV N Y a (j - 4 * T 7 2) else T 2 j)
      rw [if_pos ⟨h1, by omega⟩, g _ _ (by omega)]
      have := hv hc (j - 4 * T 7 2) (by omega)
      rw [show 4 * T 7 2 + (j - 4 * T 7 2) = j by omega] at this
      exact this
    | succ j ih =>
      intro k u hk fu tu ffu du hv
      apply xX2_readDusk_2
      unfold vX2_readDusk_2
      rw [L_4, nI_leI (by omega) (by omega), nI_1 k]
      refine ⟨fun z => absurd z (by omega), fun _ => K_number (d := d) (lo := 0) (hi := 40) (by decide) (by decide) tu ffu (fun u1 f1 t1 ff1 _ => ⟨ia_0 ho, ?_⟩)⟩
      rw [orf_a] at ff1
      have du1 := du.T ho f1
      have hcu : u1.1 o 10 = nI (T 7 2) := du1.1.2.2.1
      have hv1 : T 7 2 < 12 → ∀ i, i < k → u1.1 (o + 9) (4 * T 7 2 + i) = nI (dkV N Y a i) := fun q i hi => by rw [f1.2 (o + 9) _ (aTx_l (by omega))]; exact hv q i hi
      rw [hcu, L_12, nI_leI (by omega) (by omega)]
      refine ⟨fun z => ?_, fun z => ⟨ia_0 ho, ia_0 ho, ia_9 ho, ?_⟩⟩
      · exact ih (k + 1) u1 (by omega) (fu.trans (aCo_T f1)) t1 ff1 du1 (fun q => absurd q (by omega))
      · have e4 : nI (T 7 2) * nI 4 + nI k = nI (T 7 2 * 4 + k) := by try simp (disch := omega) only [s_Ii, s_Jj, s_Vn, forall_eq, L_m1, nI_add, nI_clamp, nI_leI, nI_ltI, nI_eq, vp_nI, pk_mul, pk_sub, Nat.zero_add, Nat.add_zero, wr_2, Classical.not_not, true_and, and_true, ne_eq, false_implies, true_implies, implies_true, not_true_eq_false, not_false_eq_true, ia_0, ia_1, za_1, ia_2, za_2, ia_3, za_3, ia_4, za_4, ia_5, za_5, ia_6, za_6, ia_7, za_7, ia_8, za_8, ia_9, za_9, ia_10, za_10, ia_11, za_11, ia_12, za_12, ia_13, za_13, ia_14, za_14, ia_15, za_15, ib_0, ib_1, zb_1, ic_0, ic_1, ic_2, ic_3, zc_1, zc_2, zc_3, id_0, id_1, id_2, id_3, zd_1, zd_2, zd_3, L_0, L_1, L_2, L_3, L_4, L_5, L_6, L_7, L_8, L_9, L_10, L_11, L_12, L_13, L_14, L_15, L_16, L_17, L_18, L_19, L_20, L_24, L_27, L_30, L_31, L_32, L_35, L_36, L_40, L_41, L_43, L_44, L_45, L_46, L_47, L_48, L_50, L_54, L_57, L_58, L_59, L_60, L_61, L_62, L_63, L_91, L_93, L_96, L_97, L_98, L_99, L_100, L_103, L_122, L_145, L_150, L_200, L_255, L_600, L_999, L_1000, L_2000, L_9999, L_10000, L_32767, L_12345, oI_s, oI_n, L_mn, if_true, if_false, ite_true, ite_false, Bool.false_eq_true, Nat.reduceEqDiff, Nat.reduceLeDiff, Nat.reduceLT, Nat.reduceAdd, Nat.reduceSub, Nat.reduceMul, Nat.le_refl, Nat.lt_irrefl, Nat.not_lt_zero]
        rw [e4, nI_clamp (by omega), za_9 ho]
        refine ⟨(vp_nI (by omega)).mpr (by omega), ?_⟩
        intro w9 e9
        have g : ∀ i j, ¬ (i = o + 9 ∧ j = T 7 2 * 4 + k) → w9.1 i j = u1.1 i j := fun i j q => by rw [e9, rd_ne q]
        have g2 : ∀ i j, i = 2 ∨ i = 3 → w9.1 i j = u1.1 i j := fun i j q => g i j (by omega)
        refine ih (k + 1) w9 (by omega) ((fu.trans (aCo_T f1)).trans (by rw [e9]; exact fr.wr (aCo_i (by omega) (by omega)))) (tC.g t1 g2) (ff1.g g2) (du1.g (fun i j _ _ _ q => g i j (by omega))) (fun q i hi => ?_)
        by_cases e : i = k
        · rw [e, e9, show 4 * T 7 2 + k = T 7 2 * 4 + k by omega, rd_s]
          rfl
        · rw [g _ _ (by omega)]
          exact hv1 q i (by omega)
  apply eX2_readDusk
  unfold vX2_readDusk_0
  exact loop 4 0 w (by omega) (fr.refl _ _) hT (by show fC (orf f none) w; rw [orf_n]; exact hf) hD (fun _ i hi => absurd hi (by omega))
noncomputable def owR1 (N : Nat) (Y : Nat → Nat) (T : Tb) (a : Nat) : Option (Nat × Nat) × Nat × Nat := numH N Y 0 (T 7 0) a
noncomputable def owR2 (N : Nat) (Y : Nat → Nat) (T : Tb) (a : Nat) : Option (Nat × Nat) × Nat × Nat := numH N Y 0 (T 7 0) (owR1 N Y T a).2.2
noncomputable def owE (N : Nat) (Y : Nat → Nat) (T : Tb) (a : Nat) : Option (Nat × Nat) := if (owR1 N Y T a).2.1 = (owR2 N Y T a).2.1 then some (2, sk N Y (owR1 N Y T a).2.2) else none
noncomputable def owR3 (N : Nat) (Y : Nat → Nat) (T : Tb) (a : Nat) : Option (Nat × Nat) × Nat × Nat := num N Y 1 99 (owR2 N Y T a).2.2
noncomputable def owF (N : Nat) (Y : Nat → Nat) (T : Tb) (a : Nat) : Option (Nat × Nat) := orf (owR1 N Y T a).1 (orf (owR2 N Y T a).1 (orf (owE N Y T a) (owR3 N Y T a).1))
noncomputable def owA (N : Nat) (Y : Nat → Nat) (T : Tb) (a : Nat) : Nat := (owR3 N Y T a).2.2
noncomputable def owT (N : Nat) (Y : Nat → Nat) (T : Tb) (a : Nat) : Tb := tOwes T (owR1 N Y T a).2.1 (owR2 N Y T a).2.1 (owR3 N Y T a).2.1
theorem numH_le {N lo H a : Nat} {Y : Nat → Nat} : (numH N Y lo H a).2.1 ≤ 9999 ∨ (numH N Y lo H a).2.1 = lo := by
  unfold numH
  split
  · split
    · left
      show vlD N Y (sk N Y a) ≤ 9999
      unfold vlD
      have key : ∀ j b v, v ≤ 9999 → vlA Y j b v ≤ 9999 := by
        intro j
        induction j with
        | zero => intro b v hv; exact hv
        | succ j ih => intro b v hv; exact ih _ _ (by omega)
      exact key _ _ _ (by omega)
    · exact Or.inr rfl
  · exact Or.inr rfl
theorem K_rdow {d N a o : Nat} {Y : Nat → Nat} {T : Tb} {X : s_Xo} {f : Option (Nat × Nat)} {w : q_Sm} {Q : q_Sm → Prop} (ho : o = 4 ∨ o = 20) (ht : tb T) (hT : tC N Y a w) (hf : fC f w) (hD : cD o T w)
    (h : ∀ u, fr (aCo o) w u → tC N Y (owA N Y T a) u → fC (orf f (owF N Y T a)) u → (orf f (owF N Y T a) = none → cD o (owT N Y T a) u) → (orf f (owF N Y T a) ≠ none → cD o T u) → Q u) : s_EvV (d + 3) 0 mX2_readLoan w [.ref o, .ref 2] Q X := by
  have h6 := tb_nc ht
  have h600 := hT.1
  have b1 : (owR1 N Y T a).2.1 < 2 ^ 31 := by
    have := numH_le (N := N) (lo := 0) (H := T 7 0) (a := a) (Y := Y)
    show (numH N Y 0 (T 7 0) a).2.1 < 2 ^ 31
    omega
  have b2 : (owR2 N Y T a).2.1 < 2 ^ 31 := by
    have := numH_le (N := N) (lo := 0) (H := T 7 0) (a := (owR1 N Y T a).2.2) (Y := Y)
    show (numH N Y 0 (T 7 0) (owR1 N Y T a).2.2).2.1 < 2 ^ 31
    omega
  have tail : ∀ u, fr aTx w u → tC N Y (owR2 N Y T a).2.2 u → fC (orf f (orf (owR1 N Y T a).1 (orf (owR2 N Y T a).1 (owE N Y T a)))) u → s_Ex (d + 3) 0 mX2_readLoan 38 [some (.ref o), some (.ref 2), some (.int (nI (owR1 N Y T a).2.1)), some (.int (nI (owR2 N Y T a).2.1)), none, none] [] u (s_V Q) X := by
    intro u fu0 tu0 ffu0
    apply xX2_readLoan_38
    unfold vX2_readLoan_38
    refine K_number (d := d) (lo := 1) (hi := 99) (by decide) (by decide) tu0 ffu0 (fun u2 f2 t2 ff2 _ => ?_)
    simp only [orf_a] at ff2
    have tu : tC N Y (owA N Y T a) u2 := t2
    have ffu : fC (orf f (owF N Y T a)) u2 := ff2
    have fu := fu0.trans f2
    have du := hD.T ho fu
    refine K_failed ffu (fun z => ⟨fun _ => ?_, fun z => absurd (by decide) z⟩) (fun z => ⟨fun z => absurd rfl z, fun _ => ⟨ia_0 ho, ia_0 ho, ia_15 ho, ?_⟩⟩)
    · rw [s_Vn]
      exact h u2 (aCo_T fu) tu ffu (fun q => absurd q z) (fun _ => du)
    obtain ⟨_, z1⟩ := orf_nn.mp z
    obtain ⟨z1, z2⟩ := orf_nn.mp z1
    obtain ⟨z2, _⟩ := orf_nn.mp z2
    have v1 : (owR1 N Y T a).2.1 < T 7 0 := (numH_v z1).2
    have v2 : (owR2 N Y T a).2.1 < T 7 0 := (numH_v z2).2
    have v3 := (num_v (N := N) (Y := Y) (a := (owR2 N Y T a).2.2) (show 1 ≤ 99 by omega)).2
    have e6 : nI (owR1 N Y T a).2.1 * 6 + nI (owR2 N Y T a).2.1 = nI (6 * (owR1 N Y T a).2.1 + (owR2 N Y T a).2.1) := by
      have : nI (owR1 N Y T a).2.1 * nI 6 + nI (owR2 N Y T a).2.1 = nI ((owR1 N Y T a).2.1 * 6 + (owR2 N Y T a).2.1) := by try simp (disch := omega) only [s_Ii, s_Jj, s_Vn, forall_eq, L_m1, nI_add, nI_clamp, nI_leI, nI_ltI, nI_eq, vp_nI, pk_mul, pk_sub, Nat.zero_add, Nat.add_zero, wr_2, Classical.not_not, true_and, and_true, ne_eq, false_implies, true_implies, implies_true, not_true_eq_false, not_false_eq_true, ia_0, ia_1, za_1, ia_2, za_2, ia_3, za_3, ia_4, za_4, ia_5, za_5, ia_6, za_6, ia_7, za_7, ia_8, za_8, ia_9, za_9, ia_10, za_10, ia_11, za_11, ia_12, za_12, ia_13, za_13, ia_14, za_14, ia_15, za_15, ib_0, ib_1, zb_1, ic_0, ic_1, ic_2, ic_3, zc_1, zc_2, zc_3, id_0, id_1, id_2, id_3, zd_1, zd_2, zd_3, L_0, L_1, L_2, L_3, L_4, L_5, L_6, L_7, L_8, L_9, L_10, L_11, L_12, L_13, L_14, L_15, L_16, L_17, L_18, L_19, L_20, L_24, L_27, L_30, L_31, L_32, L_35, L_36, L_40, L_41, L_43, L_44, L_45, L_46, L_47, L_48, L_50, L_54, L_57, L_58, L_59, L_60, L_61, L_62, L_63, L_91, L_93, L_96, L_97, L_98, L_99, L_100, L_103, L_122, L_145, L_150, L_200, L_255, L_600, L_999, L_1000, L_2000, L_9999, L_10000, L_32767, L_12345, oI_s, oI_n, L_mn, if_true, if_false, ite_true, ite_false, Bool.false_eq_true, Nat.reduceEqDiff, Nat.reduceLeDiff, Nat.reduceLT, Nat.reduceAdd, Nat.reduceSub, Nat.reduceMul, Nat.le_refl, Nat.lt_irrefl, Nat.not_lt_zero]
      rw [show 6 * (owR1 N Y T a).2.1 = (owR1 N Y T a).2.1 * 6 by omega]
      exact this
    have hold : u2.1 (o + 15) (6 * (owR1 N Y T a).2.1 + (owR2 N Y T a).2.1) = nI (T 6 (6 * (owR1 N Y T a).2.1 + (owR2 N Y T a).2.1)) := du.2.2.2.2.2.2.2 _ (by omega)
    have h999 : T 6 (6 * (owR1 N Y T a).2.1 + (owR2 N Y T a).2.1) ≤ 999 := ht.2.2.2.2.2.2.2.1 _ (by omega)
    rw [e6, nI_clamp (by omega), za_15 ho, hold, nI_add]
    refine ⟨(vp_nI (by omega)).mpr (by omega), k_minN (a := 999) (by omega) (by omega) ⟨ia_15 ho, (vp_nI (by omega)).mpr (by omega), ?_⟩⟩
    intro w9 e9
    rw [s_Vn]
    have g : ∀ i j, ¬ (i = o + 15 ∧ j = 6 * (owR1 N Y T a).2.1 + (owR2 N Y T a).2.1) → w9.1 i j = u2.1 i j := fun i j q => by rw [e9, rd_ne q]
    have g2 : ∀ i j, i = 2 ∨ i = 3 → w9.1 i j = u2.1 i j := fun i j q => g i j (by omega)
    refine h w9 ((aCo_T fu).trans (by rw [e9]; exact fr.wr (aCo_i (by omega) (by omega)))) (tu.g g2) (ffu.g g2) (fun _ => ?_) (fun q => absurd z q)
    obtain ⟨⟨a1, a2, a3, a4, a5⟩, ⟨b1, b2⟩, ⟨c1, c2, c3, c4, c5⟩, e1, e2, e3, ⟨p1, p2, p3⟩, g6⟩ := du
    exact ⟨⟨(g _ _ (by omega)).trans a1, (g _ _ (by omega)).trans a2, (g _ _ (by omega)).trans a3, (g _ _ (by omega)).trans a4, (g _ _ (by omega)).trans a5⟩, ⟨b1.eq (fun j => g _ _ (by omega)), b2.eq (fun j => g _ _ (by omega))⟩, ⟨c1.eq (fun j => g _ _ (by omega)), c2.eq (fun j => g _ _ (by omega)), c3.eq (fun j => g _ _ (by omega)), c4.eq (fun j => g _ _ (by omega)), c5.eq (fun j => g _ _ (by omega))⟩, e1.eq (fun j => g _ _ (by omega)), e2.eq (fun j => g _ _ (by omega)), e3.eq (fun j => g _ _ (by omega)), ⟨p1.eq (fun j => g _ _ (by omega)), p2.eq (fun j => g _ _ (by omega)), p3.eq (fun j => g _ _ (by omega))⟩, holds_u g6 (fun j hj => g _ _ (by omega)) (by rw [e9, rd_s]; rfl)⟩
  apply eX2_readLoan
  unfold vX2_readLoan_0
  refine ⟨ia_0 ho, ?_⟩
  rw [hD.1.1]
  refine K_numH (d := d) (lo := 0) (H := T 7 0) (by decide) (fun v hv => bd_c (by omega) v (by omega)) hT hf (fun u1 f1 t1 ff1 _ => ⟨ia_0 ho, ?_⟩)
  have d1 := hD.T ho f1
  rw [d1.1.1]
  refine K_numH (d := d) (lo := 0) (H := T 7 0) (by decide) (fun v hv => bd_c (by omega) v (by omega)) t1 ff1 (fun u2 f2 t2 ff2 s2 => ?_)
  simp only [orf_a] at ff2
  show (¬ nI (owR1 N Y T a).2.1 = nI (owR2 N Y T a).2.1 → _) ∧ (¬ ¬ nI (owR1 N Y T a).2.1 = nI (owR2 N Y T a).2.1 → _)
  rw [nI_eq b1 b2]
  have hE : owE N Y T a = if (owR1 N Y T a).2.1 = (owR2 N Y T a).2.1 then some (2, sk N Y (owR1 N Y T a).2.2) else none := rfl
  refine ⟨fun z => ?_, fun z => K_start ?_⟩
  · rw [if_neg z] at hE
    exact tail u2 (f1.trans f2) t2 (by rw [hE, orf_n]; exact ff2)
  · rw [if_pos (Classical.not_not.mp z)] at hE
    rw [s2]
    have hs : sk N Y (owR1 N Y T a).2.2 ≤ N := sk_le (Y := Y) t1.2.1
    have hs2 : sk N Y (owR1 N Y T a).2.2 ≤ 600 := by omega
    refine K_blame (k := 2) ff2 (by decide) (by decide) hs2 (fun u3 g1 g2 g3 g4 => ?_)
    simp only [orf_a] at g4
    exact tail u3 ((f1.trans f2).trans g1) (t2.mv g1 (g2.trans t2.2.2.2.1) t2.2.1) (by rw [hE]; exact g4)
