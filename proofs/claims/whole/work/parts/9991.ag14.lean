/-! the law agrees -/
theorem R_begins7 {d n j : Nat} {Y : Nat → Nat} {X : s_Xo} {w : q_Sm} {Q : q_Sm → Prop} (hn : n ≤ 600) (hj : j ≤ n) (hY : ∀ k, k < n → Y k < 256 ∧ w.1 81 k = nI (Y k)) (h : ∀ u, fr aBg w u → tR j Y 0 u → fR none u → u.1 79 2 = nI 0 → u.1 79 7 = nI 0 → Q u) : s_EvV (d + 1) 0 mX12_begins w [.ref 79, .int (nI j)] Q X := by
  apply eX12_begins
  unfold vX12_begins_0
  rintro _ rfl _ rfl _ rfl _ rfl _ rfl
  intro w8 e8
  rw [s_Vn]
  have f8 : fr aBg w w8 := by
    rw [e8]
    exact ((((((fr.wr rfl).put rfl).put rfl).put rfl).put rfl).put rfl)
  refine h w8 f8 ⟨by omega, by omega, ?_, ?_, fun k hk => ?_⟩ ?_ ?_ ?_
  · rw [e8, rd_j (by decide), rd_j (by decide), rd_j (by decide), rd_s]
  · rw [e8, rd_j (by decide), rd_j (by decide), rd_s]; rfl
  · rw [f8.2 81 k (by simp [aBg])]
    exact hY k (by omega)
  · show w8.1 79 5 = oI none
    rw [e8, rd_j (by decide), rd_s]; rfl
  · rw [e8, rd_j (by decide), rd_j (by decide), rd_j (by decide), rd_j (by decide), rd_j (by decide), rd_s]; rfl
  · rw [e8, rd_s]; rfl
/-- the whole text: a fault, or codes -/
theorem law_out {l N : Nat} {Y : Nat → Nat} (hl : l = 36 ∨ l = 40) (hN : N ≤ 150) :
    (∃ y, (∀ X (w : q_Sm) (Q : q_Sm → Prop), tC N Y 0 w → fC none w → (∀ u, fr (aLw l) w u → fC (some y) u → Q u) → s_EvV 997 0 mX5_read w [.ref l, .ref 2] Q X) ∧
      (∀ X (w : q_Sm) (Q : s_Po), tR N Y 0 w → fR none w → w.1 79 7 = nI 0 → w.1 79 39 = nI 0 → (∀ u, fr aRl w u → fR (some y) u → s_Ex 999 0 mX12_law 77 [some (.ref 79), none, none] [] u Q X) → s_EvV 998 0 mX12_readSum w [.ref (79)] (fun u47 => s_EvI 998 0 mX12_fine u47 [.ref (79)] (fun v48 u49 => ((v48 = 0) → s_Ex (998 + 1) 0 mX12_law 77 [some (.ref (79)), none, none] [] u49 Q X) ∧ (¬ (v48 = 0) → s_EvI 998 0 mX12_isMore u49 [.ref (79)] (fun v50 u51 => ((v50 = 0) → s_Ex (998 + 1) 0 mX12_law 77 [some (.ref (79)), none, none] [] u51 Q X) ∧ (¬ (v50 = 0) → s_EvV 998 0 mX12_wrong u51 [.ref (79), .int (1), .int (u51.1 79 4)] (fun u53 => s_Ex (998 + 1) 0 mX12_law 77 [some (.ref (79)), none, none] [] u53 Q X) X)) X)) X) X)) ∨
    (∃ n C, lwf C n ∧ (∀ X (w : q_Sm) (Q : q_Sm → Prop), tC N Y 0 w → fC none w → (∀ u, fr (aLw l) w u → fC none u → lc l n C u → Q u) → s_EvV 997 0 mX5_read w [.ref l, .ref 2] Q X) ∧
      (∀ X (w : q_Sm) (Q : s_Po), tR N Y 0 w → fR none w → w.1 79 7 = nI 0 → w.1 79 39 = nI 0 → (∀ u, fr aRl w u → fR none u → lr n C u → s_Ex 999 0 mX12_law 77 [some (.ref 79), none, none] [] u Q X) → s_EvV 998 0 mX12_readSum w [.ref (79)] (fun u47 => s_EvI 998 0 mX12_fine u47 [.ref (79)] (fun v48 u49 => ((v48 = 0) → s_Ex (998 + 1) 0 mX12_law 77 [some (.ref (79)), none, none] [] u49 Q X) ∧ (¬ (v48 = 0) → s_EvI 998 0 mX12_isMore u49 [.ref (79)] (fun v50 u51 => ((v50 = 0) → s_Ex (998 + 1) 0 mX12_law 77 [some (.ref (79)), none, none] [] u51 Q X) ∧ (¬ (v50 = 0) → s_EvV 998 0 mX12_wrong u51 [.ref (79), .int (1), .int (u51.1 79 4)] (fun u53 => s_Ex (998 + 1) 0 mX12_law 77 [some (.ref (79)), none, none] [] u53 Q X) X)) X)) X) X)) := by
  have hDU : DU 0 + 2 ≤ 996 := by decide
  have hDU2 : DU 0 + 2 ≤ 998 := by decide
  have kin : ∀ X (w : q_Sm) (Q : q_Sm → Prop), tC N Y 0 w → fC none w → (∀ u, fr (aLw l) w u → tC N Y 0 u → fC none u → lc l 0 (fun _ => 0) u → s_EvV 996 0 mX5_readSum u [.ref l, .ref 2, .int (nI 0)] (fun u3 => s_EvV 996 0 mX10_needEnd u3 [.ref (2)] (fun u5 => s_V Q none u5) X) X) → s_EvV 997 0 mX5_read w [.ref l, .ref 2] Q X := by
    intro X w Q hT hf h
    apply eX5_read
    unfold vX5_read_0
    refine ⟨ic_0 hl, ?_⟩
    intro w1 e1
    have g : ∀ i j, i = 2 ∨ i = 3 → w1.1 i j = w.1 i j := fun i j q => by rw [e1, rd_i (by omega)]
    exact ⟨ic_0 hl, h w1 (by rw [e1]; exact fr.wr (by simp [aLw])) (hT.g g) (hf.g g) ⟨by omega, by rw [e1, rd_s]; rfl, fun k hk => absurd hk (by omega)⟩⟩
  have lr0 : ∀ {w : q_Sm}, w.1 79 39 = nI 0 → lr 0 (fun _ => 0) w := fun h => ⟨by omega, h, fun k hk => absurd hk (by omega)⟩
  rcases law_all (Y := Y) hl hN (N + 1) 0 0 0 (fun _ => 0) (by omega) (by omega) (by omega) (by omega) (by exact Nat.le_refl 0) with ⟨y, uc, ur⟩ | ⟨a1, n1, C1, g1, uc, ur⟩
  · refine Or.inl ⟨y, fun X w Q hT hf h => kin X w Q hT hf (fun u fu tu ffu cu => uc 996 X hDU u _ tu ffu cu (fun u2 f2 b2 => ?_)), fun X w Q hT hf h7 h39 h => ur 998 X hDU2 w _ hT hf h7 (lr0 h39) (fun u2 f2 b2 => ?_)⟩
    · obtain ⟨a, t2⟩ := b2.2.1
      refine K_needEnd (d := 994) t2 b2.1 (fun u3 f3 t3 ff3 => ?_)
      rw [s_Vn]
      exact h u3 ((fu.trans f2).trans (aLw_T f3)) ff3
    · exact R_fine b2 (fun z => by simp at z) (fun _ => ⟨fun _ => h u2 f2 b2, fun z => absurd rfl z⟩)
  · have g1a := g1.1
    have hsN := sk_le (Y := Y) g1a.2.1
    by_cases q : sk N Y a1 < N
    · refine Or.inl ⟨(1, sk N Y a1), fun X w Q hT hf h => kin X w Q hT hf (fun u fu tu ffu cu => uc 996 X hDU u _ tu ffu cu (fun u2 f2 t2 ff2 c2 => ?_)), fun X w Q hT hf h7 h39 h => ur 998 X hDU2 w _ hT hf h7 (lr0 h39) (fun u2 f2 t2 ff2 o2 c2 => ?_)⟩
      · refine K_needEnd (d := 994) t2 ff2 (fun u3 f3 t3 ff3 => ?_)
        rw [if_pos q] at ff3
        rw [s_Vn]
        exact h u3 ((fu.trans f2).trans (aLw_T f3)) ff3
      · refine R_fine ff2 (fun _ => ⟨fun z => absurd z (by decide), fun _ => ?_⟩) (fun z => absurd rfl z)
        refine R_isMore (d := 996) t2 ff2 (fun u3 f3 t3 ff3 _ => ⟨fun z => absurd z (by decide), fun _ => ?_⟩) (fun u3 f3 t3 ff3 z => absurd q z)
        rw [t3.2.2.2.1]
        refine R_wrong (k := 1) (d := 997) ff3 (by decide) (by decide) (by omega) (fun u4 f4 g4 ff4 => ?_)
        exact h u4 ((f2.trans (aRl_x f3)).trans (aRl_x f4)) ff4
    · refine Or.inr ⟨n1, C1, ⟨by omega, fun k hk => g1.2.2.2 k (by omega) hk, by have := g1.2.2.1; omega⟩, fun X w Q hT hf h => kin X w Q hT hf (fun u fu tu ffu cu => uc 996 X hDU u _ tu ffu cu (fun u2 f2 t2 ff2 c2 => ?_)), fun X w Q hT hf h7 h39 h => ur 998 X hDU2 w _ hT hf h7 (lr0 h39) (fun u2 f2 t2 ff2 o2 c2 => ?_)⟩
      · refine K_needEnd (d := 994) t2 ff2 (fun u3 f3 t3 ff3 => ?_)
        rw [if_neg q] at ff3
        rw [s_Vn]
        exact h u3 ((fu.trans f2).trans (aLw_T f3)) ff3 (c2.T hl f3)
      · refine R_fine ff2 (fun _ => ⟨fun z => absurd z (by decide), fun _ => ?_⟩) (fun z => absurd rfl z)
        refine R_isMore (d := 996) t2 ff2 (fun u3 f3 t3 ff3 z => absurd z q) (fun u3 f3 t3 ff3 _ => ⟨fun _ => ?_, fun z => absurd rfl z⟩)
        exact h u3 (f2.trans (aRl_x f3)) ff3 (c2.x f3)
theorem R_result1 {d : Nat} {f : Option (Nat × Nat)} {x : Int32} {X : s_Xo} {u : q_Sm} {Q : Int32 → q_Sm → Prop} (hf : fR f u)
    (h1 : f = none → ∀ z, z = q_wI u 79 8 (oI none) → fR none z → Q x z) (h2 : ∀ k p, f = some (k, p) → ∀ z, z = q_wI u 79 8 (nI p) → fR (some (k, p)) z → Q (nI k - 10) z) : s_EvI (d + 2) 0 mX12_result u [.ref 79, .int x] Q X := by
  apply eX12_result
  unfold vX12_result_0
  intro w1 e1
  have f1 : fR f w1 := hf.mv (by rw [e1, rd_j (by decide)]) (by rw [e1, rd_j (by decide)])
  cases f with
  | none =>
    have hf : u.1 79 5 = oI none := hf
    rw [hf] at e1
    refine R_fine f1 (fun _ => ⟨fun z => absurd z (by decide), fun _ => ?_⟩) (fun z => absurd rfl z)
    rw [s_Ii]
    exact h1 rfl w1 e1 f1
  | some y =>
    obtain ⟨k, p⟩ := y
    have hf : u.1 79 5 = nI p ∧ u.1 79 6 = nI k ∧ 0 < k ∧ k < 4 ∧ p ≤ 600 := hf
    have f1' : w1.1 79 5 = nI p ∧ w1.1 79 6 = nI k ∧ 0 < k ∧ k < 4 ∧ p ≤ 600 := f1
    rw [hf.1] at e1
    refine R_fine f1 (fun z => by simp at z) (fun _ => ⟨fun _ => ?_, fun z => absurd rfl z⟩)
    rw [s_Ii, f1'.2.1]
    exact h2 k p rfl w1 e1 f1
theorem R_lawEnd0 {y : Nat × Nat} {X : s_Xo} {u : q_Sm} {Q : Int32 → q_Sm → Prop} (hf : fR (some y) u) (h : ∀ z, z = q_wI u 79 8 (nI y.2) → Q (nI y.1 - 10) z) : s_Ex 999 0 mX12_law 77 [some (.ref 79), none, none] [] u (s_I Q) X := by
  apply xX12_law_77
  unfold vX12_law_77
  refine R_result1 (d := 996) hf (fun z => by simp at z) (fun k p e z ez fz => ?_)
  simp at e
  subst e
  rw [fR_5 fz]
  refine ⟨fun z => by simp at z, fun _ => ?_⟩
  rw [s_Ii]
  exact h z ez
theorem R_lawEnd1 {n : Nat} {C : Nat → Nat} {X : s_Xo} {u : q_Sm} {Q : Int32 → q_Sm → Prop} (hf : fR none u) (hc : lr n C u) (h : ∀ z, z.2 = u.2 → (∀ i j, ¬ (i = 79 ∧ (j = 8 ∨ j = 40)) → i ≠ 98 → i ≠ 99 → z.1 i j = u.1 i j) → z.1 79 8 = oI none → z.1 79 40 = nI n → (∀ k, k < n → z.1 98 k = nI (r1 (C k)) ∧ (C k < 1007 → z.1 99 k = nI (r2 (C k)))) → Q (nI 1) z) : s_Ex 999 0 mX12_law 77 [some (.ref 79), none, none] [] u (s_I Q) X := by
  have hn := hc.1
  apply xX12_law_77
  unfold vX12_law_77
  refine R_result1 (d := 996) hf (fun _ z ez fz => ?_) (fun k p e => by simp at e)
  rw [fR_5 fz]
  refine ⟨fun _ => ?_, fun q => absurd rfl q⟩
  intro w1 e1
  have g1 : ∀ i j, ¬ (i = 79 ∧ (j = 8 ∨ j = 40)) → w1.1 i j = u.1 i j := fun i j q => by rw [e1, rd_ne (by omega), ez, rd_ne (by omega)]
  have h39 : w1.1 79 39 = nI n := (g1 _ _ (by omega)).trans hc.2.1
  have h40 : w1.1 79 40 = nI n := by rw [e1, rd_s, ez, rd_j (by decide)]; exact hc.2.1
  have h8 : w1.1 79 8 = oI none := by rw [e1, rd_j (by decide), ez, rd_s]
  have h2 : w1.2 = u.2 := by rw [e1, ez]; rfl
  rw [h39]
  refine r_copies (d := 997) (q_id_of rfl) (q_id_of rfl) (by decide) (by omega) hn hn (fun u2 k1 _ f1 => ?_)
  rw [f1.2 79 39 rfl, h39]
  refine r_copies (d := 997) (q_id_of rfl) (q_id_of rfl) (by decide) (by omega) hn hn (fun u3 k2 _ f2 => ?_)
  rw [s_Ii]
  refine h u3 (by rw [f2.1, f1.1]; exact h2) (fun i j q1 q2 q3 => ?_) ?_ ?_ (fun k hk => ⟨?_, fun q => ?_⟩)
  · rw [f2.2 i j (by simp [q3]), f1.2 i j (by simp [q2]), g1 i j (by omega)]
  · rw [f2.2 79 8 rfl, f1.2 79 8 rfl, h8]
  · rw [f2.2 79 40 rfl, f1.2 79 40 rfl, h40]
  · rw [f2.2 98 k rfl, k1 k hk, g1 96 k (by omega)]
    exact (hc.2.2 k hk).1
  · rw [k2 k hk, f1.2 97 k rfl, g1 97 k (by omega)]
    exact (hc.2.2 k hk).2 q
theorem Inv_law {T : Tb} {β C C' : Nat → Nat} {n n' : Nat} {S B : Nat → Nat} {m : Nat} {w z : q_Sm} (hC : Co T β C n S B m w) (hPst : pst T w) (hImg : img T w) (hCnt : cnt w)
    (gg : ∀ i j, i ≠ 2 → ¬ (36 ≤ i ∧ i ≤ 43) → ¬ (i = 79 ∧ (j ≤ 8 ∨ j = 39 ∨ j = 40)) → ¬ (96 ≤ i ∧ i ≤ 99) → z.1 i j = w.1 i j) (hid : ids z) (hi1 : z.2.2.1 = w.2.2.1) (hi2 : z.2.2.2.2.2.2.1 = w.2.2.2.2.2.2.1) (hw : lwf C' n') (hcl : cL z.2.2.2.2.1 C' n' z) (hrl : rL C' n' z) (h26 : z.1 2 6 = z.1 79 8) (h21 : z.1 2 1 = nI 0) (h792 : z.1 79 2 = nI 0) (h75 : z.2.1 75 0 = w.2.1 75 0) : Inv z := by
  obtain ⟨a1, a2, a3, a4, a5, a6, a7, a8⟩ := hC
  have ho := a2.1
  have hb := a1.2.2
  have gk : ∀ i j, i ≠ 2 → ¬ (36 ≤ i ∧ i ≤ 43) → ¬ (i = 79 ∧ (j ≤ 8 ∨ j = 39 ∨ j = 40)) → ¬ (96 ≤ i ∧ i ≤ 99) → z.1 i j = w.1 i j := gg
  refine ⟨T, β, C', n', S, B, m, ⟨hid, ?_, ⟨a3.1, a3.2.1.eq (fun i j q => gg i j (by omega) (by omega) (by omega) (by omega)), hw, hrl⟩, a4.eq (fun j => gg _ _ (by omega) (by omega) (by omega) (by omega)), a5.eq (fun j => gg _ _ (by omega) (by omega) (by omega) (by omega)), a6, a7.eq (fun i j q => gg i j (by omega) (by omega) (by omega) (by omega)), ?_⟩, hPst.eq (fun i j q => gg i j (by omega) (by omega) (by omega) (by omega)), hImg.eq (fun i j q => gg i j (by omega) (by omega) (by omega) (by omega)), ⟨0, fun _ => 0, by omega, h21, h792, fun k hk => absurd hk (by omega)⟩, ?_⟩
  · refine ⟨by rw [hi1]; exact a2.1, by have := hid.2.1; omega, a2.2.2.1, ?_, hw, hcl⟩
    rw [hi1]
    exact a2.2.2.2.1.eq (fun i j q q2 => gg i j (by omega) (by omega) (by omega) (by omega))
  · unfold bk
    rw [hi2]
    obtain ⟨b1, b2, b3, b4⟩ := a8
    refine ⟨b1, ?_, ?_, fun i hi => ⟨⟨?_, ?_, ?_⟩, ⟨?_, ?_, ?_⟩, (b4 i hi).2.2⟩⟩
    · rw [gg _ _ (by omega) (by omega) (by omega) (by omega)]; exact b2
    · rw [gg _ _ (by omega) (by omega) (by omega) (by omega)]; exact b3
    · rw [gg _ _ (by omega) (by omega) (by omega) (by omega)]; exact (b4 i hi).1.1
    · rw [gg _ _ (by omega) (by omega) (by omega) (by omega)]; exact (b4 i hi).1.2.1
    · rw [gg _ _ (by omega) (by omega) (by omega) (by omega)]; exact (b4 i hi).1.2.2
    · rw [gg _ _ (by omega) (by omega) (by omega) (by omega)]; exact (b4 i hi).2.1.1
    · rw [gg _ _ (by omega) (by omega) (by omega) (by omega)]; exact (b4 i hi).2.1.2.1
    · rw [gg _ _ (by omega) (by omega) (by omega) (by omega)]; exact (b4 i hi).2.1.2.2
  · obtain ⟨d1, d2, d3, d4⟩ := hCnt
    refine ⟨?_, ?_, ?_, h26, h75.trans d4.2⟩
    · rw [gg 1 13 (by omega) (by omega) (by omega) (by omega), gg 80 0 (by omega) (by omega) (by omega) (by omega)]; exact d1
    · rw [gg 1 14 (by omega) (by omega) (by omega) (by omega), gg 80 1 (by omega) (by omega) (by omega) (by omega)]; exact d2
    · rw [gg 1 12 (by omega) (by omega) (by omega) (by omega), gg 79 46 (by omega) (by omega) (by omega) (by omega)]; exact d3
theorem ag_law (w : q_Sm) (hI : Inv w) (x1 : Int32) : ag_W Inv 998 1 er_I mX11_law mX12_law w [.int x1] := by
  obtain ⟨T, β, C, n, S, B, m, hC, hPst, hImg, hTp, hCnt⟩ := id hI
  obtain ⟨nt, Y, hnt, t1, t2, t3⟩ := id hTp
  by_cases hbad : x1 < 0 ∨ (150 : Int32) < x1 ∨ nI nt < x1
  · refine agW_no hI "java/lang/IllegalArgumentException" (nI 1) 14 1 (by omega) ⟨rfl, rfl⟩ (fun Q X hX => ?_) (fun u hu Q X hQ => ?_)
    · apply eX11_law
      unfold vX11_law_0
      exact K_openNo (d := 987) t1 hbad hX
    · apply eX12_law
      unfold vX12_law_0
      rintro _ rfl
      have e2 : (q_wI u 79 0 0).1 79 2 = nI nt := by rw [rd_j (by decide), hu _ _ (by decide), t2]
      rw [e2]
      refine ⟨fun _ => R_no (k := 1) (t := 1) (by omega) (by omega) (by omega) ⟨fun z => absurd rfl z, fun _ => ⟨_, rfl, hQ⟩⟩, fun z => ⟨fun _ => R_no (k := 1) (t := 1) (by omega) (by omega) (by omega) ⟨fun z => absurd rfl z, fun _ => ⟨_, rfl, hQ⟩⟩, fun z2 => ⟨fun _ => R_no (k := 1) (t := 1) (by omega) (by omega) (by omega) ⟨fun z => absurd rfl z, fun _ => ⟨_, rfl, hQ⟩⟩, fun z3 => ?_⟩⟩⟩
      rcases hbad with q | q | q
      · exact absurd q z
      · exact absurd q z3
      · exact absurd q z2
  obtain ⟨j, hj, rfl⟩ := in_ok (x := x1) (n := nt) (by omega) (fun z => hbad (Or.inl z)) (fun z => hbad (Or.inr (Or.inr z)))
  have hj150 : j ≤ 150 := by
    apply Classical.byContradiction
    intro q
    refine hbad (Or.inr (Or.inl ?_))
    rw [L_150, nI_ltI (by omega) (by omega)]
    omega
  have hids := hC.1
  have hid2 := hids.2.1
  have ho : w.2.2.2.2.2.1 = 36 ∨ w.2.2.2.2.2.1 = 40 := by omega
  -- the reference begins, from any memory that the class leaves
  have ref : ∀ (u : q_Sm) (Q : Int32 → q_Sm → Prop), (∀ i k, i ≠ 2 → ¬ (36 ≤ i ∧ i ≤ 43) → u.1 i k = w.1 i k) →
      (∀ w_6 : q_Sm, w_6.2 = u.2 → (∀ i k, ¬ (i = 79 ∧ (k ≤ 8 ∨ k = 39)) → w_6.1 i k = u.1 i k) → w_6.1 79 0 = 0 → w_6.1 79 2 = nI 0 → tR j Y 0 w_6 → fR none w_6 → w_6.1 79 7 = nI 0 → w_6.1 79 39 = nI 0 → s_EvV 998 0 mX12_readSum w_6 [.ref (79)] (fun u47 => s_EvI 998 0 mX12_fine u47 [.ref (79)] (fun v48 u49 => ((v48 = 0) → s_Ex (998 + 1) 0 mX12_law 77 [some (.ref (79)), none, none] [] u49 (s_I Q) X0) ∧ (¬ (v48 = 0) → s_EvI 998 0 mX12_isMore u49 [.ref (79)] (fun v50 u51 => ((v50 = 0) → s_Ex (998 + 1) 0 mX12_law 77 [some (.ref (79)), none, none] [] u51 (s_I Q) X0) ∧ (¬ (v50 = 0) → s_EvV 998 0 mX12_wrong u51 [.ref (79), .int (1), .int (u51.1 79 4)] (fun u53 => s_Ex (998 + 1) 0 mX12_law 77 [some (.ref (79)), none, none] [] u53 (s_I Q) X0) X0)) X0)) X0) X0) →
      s_EvI 999 0 mX12_law u [.ref 79, .int (nI j)] Q X0 := by
    intro u Q gu q1
    apply eX12_law
    unfold vX12_law_0
    intro w1 e1
    have g1 : ∀ i k, ¬ (i = 79 ∧ k = 0) → w1.1 i k = u.1 i k := fun i k q => by rw [e1, rd_ne (by omega)]
    have g10 : w1.1 79 0 = 0 := by rw [e1, rd_s]
    have g12 : w1.2 = u.2 := by rw [e1]; rfl
    clear e1
    rw [g1 79 2 (by omega), gu 79 2 (by omega) (by omega), t2, L_0, L_150, nI_ltI (by omega) (by omega), nI_ltI (by omega) (by omega), nI_ltI (by omega) (by omega)]
    refine ⟨fun z => absurd z (by omega), fun _ => ⟨fun z => absurd z (by omega), fun _ => ⟨fun z => absurd z (by omega), fun _ => R_may1 g10 ⟨fun _ => ?_, fun z => absurd (by decide) z⟩⟩⟩⟩
    refine R_begins7 (d := 997) (n := nt) (Y := Y) hnt hj (fun k hk => ⟨(t3 k hk).1, by rw [g1 81 k (by omega), gu 81 k (by omega) (by omega)]; exact (t3 k hk).2.1⟩) (fun u2 f2 tt2 ff2 h792 h797 => ?_)
    intro w6 e6
    have g6 : ∀ i k, ¬ (i = 79 ∧ k = 39) → w6.1 i k = u2.1 i k := fun i k q => by rw [e6, rd_ne q]
    refine q1 w6 (by rw [e6]; exact f2.1.trans g12) (fun i k q => ?_) ?_ ?_ (tt2.g (fun i k q => g6 i k (by omega))) (ff2.mv (g6 _ _ (by omega)) (g6 _ _ (by omega))) ((g6 _ _ (by omega)).trans h797) (by rw [e6, rd_s])
    · have b2 : aBg i k = false := by simp [aBg]; omega
      rw [g6 i k (by omega), f2.2 i k b2, g1 i k (by omega)]
    · rw [g6 79 0 (by omega), f2.2 79 0 rfl]; exact g10
    · rw [g6 79 2 (by omega)]; exact h792
  -- the class begins
  have kin : ∀ (Q : Int32 → q_Sm → Prop) (X : s_Xo), (∀ u2, fr aOp w u2 → tC j Y 0 u2 → fC none u2 → u2.1 2 1 = nI 0 → s_EvV 997 0 mX5_read u2 [.ref w.2.2.2.2.2.1, .ref 2] (fun u4 => s_EvI 997 0 mX10_failed u4 [.ref (2)] (fun v5 u6 => ((v5 = 0) → ∀ w_7 : q_Sm, w_7 = (u6.1, u6.2.1, u6.2.2.1, u6.2.2.2.1, u6.2.2.2.2.2.1, u6.2.2.2.2.2.1, u6.2.2.2.2.2.2.1, u6.2.2.2.2.2.2.2) → ∀ w_8 : q_Sm, w_8 = (w_7.1, w_7.2.1, w_7.2.2.1, w_7.2.2.2.1, w_7.2.2.2.2.1, u6.2.2.2.2.1, w_7.2.2.2.2.2.2.1, w_7.2.2.2.2.2.2.2) → s_I Q (some (.int (1))) w_8) ∧ (¬ (v5 = 0) → s_EvI 997 0 mX10_faultKind u6 [.ref (2)] (fun v9 u10 => s_I Q (some (.int (v9 - 10))) u10) X)) X) X) → s_EvI 998 1 mX11_law w [.ref 1, .int (nI j)] Q X := by
    intro Q X h
    apply eX11_law
    unfold vX11_law_0
    refine K_openText (d := 987) (L := 150) (n := nt) (Y := Y) (by omega) hj150 hnt hj t1 (fun k hk => ⟨(t3 k hk).1, (t3 k hk).2.2⟩) (fun u2 f2 tt2 ff2 h21 => ?_)
    rw [f2.1]
    exact ⟨ic_0 ho, h u2 f2 tt2 ff2 h21⟩
  have cells : ∀ {u2 u4 : q_Sm}, fr aOp w u2 → fr (aLw w.2.2.2.2.2.1) u2 u4 → u2.1 2 1 = nI 0 → u4.2 = w.2 ∧ (∀ i k, i ≠ 2 → ¬ (i = w.2.2.2.2.2.1 ∧ k = 1) → i ≠ w.2.2.2.2.2.1 + 1 → u4.1 i k = w.1 i k) ∧ u4.1 2 1 = nI 0 := by
    intro u2 u4 f2 f4 h21
    refine ⟨f4.1.trans f2.1, fun i k y1 y2 y3 => ?_, ?_⟩
    · have b1 : aLw w.2.2.2.2.2.1 i k = false := by simp [aLw, aTx, y1, y3]; omega
      have b2 : aOp i k = false := by simp [aOp, y1]
      rw [f4.2 i k b1, f2.2 i k b2]
    · have b1 : aLw w.2.2.2.2.2.1 2 1 = false := by simp [aLw, aTx]; omega
      rw [f4.2 2 1 b1]
      exact h21
  have aRl_n : ∀ i k, ¬ (i = 79 ∧ (k ≤ 8 ∨ k = 39)) → ¬ (96 ≤ i ∧ i ≤ 97) → aRl i k = false := by
    intro i k z1 z2
    simp [aRl, aRx]
    omega
  rcases law_out (Y := Y) ho hj150 with ⟨y, uc, ur⟩ | ⟨n', C', hw, uc, ur⟩
  · show s_EvI 998 1 mX11_law w [.ref 1, .int (nI j)] _ _
    refine kin _ _ (fun u2 f2 tt2 ff2 h21 => uc _ u2 _ tt2 ff2 (fun u4 f4 ff4 => ?_))
    obtain ⟨h42, g4, h421⟩ := cells f2 f4 h21
    obtain ⟨k, p⟩ := y
    have ff4' : u4.1 2 5 = nI k ∧ u4.1 2 6 = nI p ∧ 0 < k ∧ k < 4 ∧ p ≤ 600 := ff4
    refine K_failed (d := 996) ff4 (fun _ => ⟨fun z => absurd z (by decide), fun _ => ?_⟩) (fun z => by simp at z)
    apply eX10_faultKind
    unfold vX10_faultKind_0
    rw [s_Ii, ff4'.1, s_Ii]
    refine ref (q_wJ u4 116 0 _) _ (fun i k y1 y2 => g4 i k y1 (by omega) (by omega)) (fun w6 w62 g6 w60 w6b t6 ff6 h67 h639 => ur _ w6 _ t6 ff6 h67 h639 (fun u7 f7 ff7 => R_lawEnd0 ff7 (fun z ez => ⟨?_, ?_, ?_⟩)))
    · rw [ez, rd_j (by decide), f7.2 79 0 rfl]; exact w60
    · rw [ez]
      show u7.2.1 116 0 = _
      rw [f7.1, w62]
      simp [q_wJ, q_up]
    · have gz : ∀ i k, i ≠ 2 → ¬ (i = w.2.2.2.2.2.1 ∧ k = 1) → i ≠ w.2.2.2.2.2.1 + 1 → ¬ (i = 79 ∧ (k ≤ 8 ∨ k = 39)) → ¬ (96 ≤ i ∧ i ≤ 97) → z.1 i k = w.1 i k := by
        intro i k y1 y2 y3 y4 y5
        rw [ez, rd_ne (by omega), f7.2 i k (aRl_n i k y4 y5), g6 i k y4]
        exact g4 i k y1 y2 y3
      have gz2 : ∀ k, z.1 2 k = u4.1 2 k := by
        intro k
        rw [ez, rd_ne (by omega), f7.2 2 k (aRl_n _ _ (by omega) (by omega)), g6 2 k (by omega)]
        rfl
      have zi : z.2.2 = w.2.2 := by
        rw [ez]
        show u7.2.2 = _
        rw [f7.1, w62]
        show u4.2.2 = _
        rw [h42]
      refine Inv_law (C' := C) (n' := n) hC hPst hImg hCnt (fun i k y1 y2 y3 y4 => gz i k y1 (by omega) (by omega) (by omega) (by omega)) (by unfold ids; rw [zi]; exact hids) (by rw [zi]) (by rw [zi]) hC.2.1.2.2.2.2.1 ?_ ?_ ?_ ?_ ?_ (by rw [ez]; show u7.2.1 75 0 = _; rw [f7.1, w62]; exact (z75 _ _).trans (by rw [h42]))
      · rw [zi]
        have hcl := hC.2.1.2.2.2.2.2
        refine ⟨?_, fun i hi => ?_⟩
        · rw [gz _ _ (by omega) (by omega) (by omega) (by omega) (by omega)]; exact hcl.1
        · rw [gz _ _ (by omega) (by omega) (by omega) (by omega) (by omega)]; exact hcl.2 i hi
      · have hrl := hC.2.2.1.2.2.2
        unfold rL
        rw [gz 79 40 (by omega) (by omega) (by omega) (by omega) (by omega)]
        refine hrl.imp id (fun q => ⟨q.1, fun i hi => ?_⟩)
        rw [gz 98 i (by omega) (by omega) (by omega) (by omega) (by omega), gz 99 i (by omega) (by omega) (by omega) (by omega) (by omega)]
        exact q.2 i hi
      · rw [gz2 6, ez, rd_s]; exact ff4'.2.1
      · rw [gz2 1]; exact h421
      · rw [ez, rd_j (by decide), f7.2 79 2 rfl]; exact w6b
  · show s_EvI 998 1 mX11_law w [.ref 1, .int (nI j)] _ _
    refine kin _ _ (fun u2 f2 tt2 ff2 h21 => uc _ u2 _ tt2 ff2 (fun u4 f4 ff4 c4 => ?_))
    obtain ⟨h42, g4, h421⟩ := cells f2 f4 h21
    refine K_failed (d := 996) ff4 (fun z => absurd rfl z) (fun _ => ⟨fun _ => ?_, fun z => absurd rfl z⟩)
    rintro _ rfl
    intro w8 e8
    have e81 : w8.1 = u4.1 := by rw [e8]
    have e8i : w8.2.2 = (w.2.2.1, w.2.2.2.1, w.2.2.2.2.2.1, w.2.2.2.2.1, w.2.2.2.2.2.2.1, w.2.2.2.2.2.2.2) := by rw [e8, h42]
    have e87 : w8.2.1 75 0 = w.2.1 75 0 := by rw [e8, h42]
    clear e8
    rw [s_Ii]
    refine ref (q_wJ w8 116 0 _) _ (fun i k y1 y2 => by show w8.1 i k = _; rw [e81]; exact g4 i k y1 (by omega) (by omega)) (fun w6 w62 g6 w60 w6b t6 ff6 h67 h639 => ur _ w6 _ t6 ff6 h67 h639 (fun u7 f7 ff7 c7 => R_lawEnd1 ff7 c7 (fun z z2 gz0 z8 z40 z98 => ⟨?_, ?_, ?_⟩)))
    · rw [gz0 79 0 (by omega) (by omega) (by omega), f7.2 79 0 rfl]; exact w60
    · rw [z2, f7.1, w62]
      simp [q_wJ, q_up]
      rfl
    · have gz : ∀ i k, i ≠ 2 → ¬ (i = w.2.2.2.2.2.1 ∧ k = 1) → i ≠ w.2.2.2.2.2.1 + 1 → ¬ (i = 79 ∧ (k ≤ 8 ∨ k = 39 ∨ k = 40)) → ¬ (96 ≤ i ∧ i ≤ 99) → z.1 i k = w.1 i k := by
        intro i k y1 y2 y3 y4 y5
        rw [gz0 i k (by omega) (by omega) (by omega), f7.2 i k (aRl_n i k (by omega) (by omega)), g6 i k (by omega)]
        show w8.1 i k = _
        rw [e81]
        exact g4 i k y1 y2 y3
      have gzu : ∀ i k, i ≠ 79 → ¬ (96 ≤ i ∧ i ≤ 99) → z.1 i k = u4.1 i k := by
        intro i k y1 y2
        rw [gz0 i k (by omega) (by omega) (by omega), f7.2 i k (aRl_n _ _ (by omega) (by omega)), g6 i k (by omega)]
        show w8.1 i k = _
        rw [e81]
      have zi : z.2.2 = (w.2.2.1, w.2.2.2.1, w.2.2.2.2.2.1, w.2.2.2.2.1, w.2.2.2.2.2.2.1, w.2.2.2.2.2.2.2) := by
        rw [z2, f7.1, w62]
        exact e8i
      refine Inv_law (C' := C') (n' := n') hC hPst hImg hCnt (fun i k y1 y2 y3 y4 => gz i k y1 (by omega) (by omega) (by omega) (by omega)) ?_ (by rw [zi]) (by rw [zi]) hw ?_ (Or.inr ⟨z40, z98⟩) ?_ ?_ ?_ (by rw [z2, f7.1, w62]; exact (z75 _ _).trans e87)
      · unfold ids
        rw [zi]
        exact ⟨hids.1, by
          show (w.2.2.2.2.2.1 = 36 ∧ w.2.2.2.2.1 = 40) ∨ (w.2.2.2.2.2.1 = 40 ∧ w.2.2.2.2.1 = 36)
          omega, hids.2.2⟩
      · rw [zi]
        refine ⟨?_, fun i hi => ?_⟩
        · show z.1 w.2.2.2.2.2.1 1 = _
          rw [gzu _ _ (by omega) (by omega)]; exact c4.2.1
        · show z.1 (w.2.2.2.2.2.1 + 1) i = _
          rw [gzu _ _ (by omega) (by omega)]; exact c4.2.2 i hi
      · rw [gzu 2 6 (by omega) (by omega), z8]; exact ff4.2
      · rw [gzu 2 1 (by omega) (by omega)]; exact h421
      · rw [gz0 79 2 (by omega) (by omega) (by omega), f7.2 79 2 rfl]; exact w6b
