/-! texts begin -/
def aOp (i j : Nat) : Bool := i == 2 && (1 ≤ j && j ≤ 6)
theorem K_open {d n j : Nat} {Y : Nat → Nat} {X : s_Xo} {w : q_Sm} {Q : q_Sm → Prop} (hn : n ≤ 600) (hj : j ≤ n) (hY : ∀ k, k < n → Y k < 256 ∧ w.1 3 k = sx (Y k)) (h : ∀ u, fr aOp w u → tC j Y 0 u → fC none u → u.1 2 1 = nI 0 → Q u) : s_EvV (d + 2) 0 mX10_open w [.ref 2, .int (nI j)] Q X := by
  apply eX10_open
  unfold vX10_open_0
  refine k_minN (b := 600) (by omega) (by omega) ?_
  rw [show min j 600 = j by omega]
  rintro _ rfl _ rfl _ rfl _ rfl _ rfl
  intro w8 e8
  rw [s_Vn]
  have f8 : fr aOp w w8 := by
    rw [e8]
    exact ((((((fr.wr rfl).put rfl).put rfl).put rfl).put rfl).put rfl)
  refine h w8 f8 ⟨by omega, by omega, ?_, ?_, fun k hk => ?_⟩ ⟨?_, ?_⟩ ?_
  · rw [e8, rd_j (by decide), rd_j (by decide), rd_j (by decide), rd_j (by decide), rd_j (by decide), rd_s]
  · rw [e8, rd_j (by decide), rd_j (by decide), rd_j (by decide), rd_s]; rfl
  · rw [f8.2 3 k (by simp [aOp])]
    exact hY k (by omega)
  · rw [e8, rd_j (by decide), rd_s]; rfl
  · rw [e8, rd_s]; rfl
  · rw [e8, rd_j (by decide), rd_j (by decide), rd_j (by decide), rd_j (by decide), rd_s]; rfl
theorem K_openText {d n j L : Nat} {Y : Nat → Nat} {X : s_Xo} {w : q_Sm} {Q : q_Sm → Prop} (hL : L < 2 ^ 31) (hjL : j ≤ L) (hn : n ≤ 600) (hj : j ≤ n) (h21 : w.1 2 1 = nI n) (hY : ∀ k, k < n → Y k < 256 ∧ w.1 3 k = sx (Y k)) (h : ∀ u, fr aOp w u → tC j Y 0 u → fC none u → u.1 2 1 = nI 0 → Q u) : s_EvV (d + 10) 1 mX11_openText w [.ref 1, .int (nI j), .int (nI L)] Q X := by
  apply eX11_openText
  unfold vX11_openText_0
  rw [L_0, nI_ltI (by omega) (by omega), nI_ltI (by omega) (by omega)]
  refine ⟨fun z => absurd z (by omega), fun _ => ⟨fun z => absurd z (by omega), fun _ => ?_⟩⟩
  apply eX10_size
  unfold vX10_size_0
  rw [h21, s_Ii, nI_ltI (by omega) (by omega)]
  refine ⟨fun z => absurd z (by omega), fun _ => K_req1 (K_open (d := d + 7) hn hj hY (fun u f t ff g => ?_))⟩
  rw [s_Vn]
  exact h u f t ff g
theorem K_openNo {d n : Nat} {x L : Int32} {X : s_Xo} {w : q_Sm} {Q : q_Sm → Prop} (h21 : w.1 2 1 = nI n) (hbad : x < 0 ∨ L < x ∨ nI n < x) (h : X "java/lang/IllegalArgumentException" (bmK w 14)) : s_EvV (d + 10) 1 mX11_openText w [.ref 1, .int x, .int L] Q X := by
  apply eX11_openText
  unfold vX11_openText_0
  refine ⟨fun _ => K_req0 h, fun z => ⟨fun _ => K_req0 h, fun z2 => ?_⟩⟩
  apply eX10_size
  unfold vX10_size_0
  rw [h21, s_Ii]
  refine ⟨fun _ => K_req0 h, fun z3 => ?_⟩
  rcases hbad with q | q | q
  · exact absurd q z
  · exact absurd q z2
  · exact absurd q z3
def aBg (i j : Nat) : Bool := i == 79 && (2 ≤ j && j ≤ 8)
theorem R_begins {d n j : Nat} {Y : Nat → Nat} {X : s_Xo} {w : q_Sm} {Q : q_Sm → Prop} (hn : n ≤ 600) (hj : j ≤ n) (hY : ∀ k, k < n → Y k < 256 ∧ w.1 81 k = nI (Y k)) (h : ∀ u, fr aBg w u → tR j Y 0 u → fR none u → u.1 79 2 = nI 0 → Q u) : s_EvV (d + 1) 0 mX12_begins w [.ref 79, .int (nI j)] Q X := by
  apply eX12_begins
  unfold vX12_begins_0
  rintro _ rfl _ rfl _ rfl _ rfl _ rfl
  intro w8 e8
  rw [s_Vn]
  have f8 : fr aBg w w8 := by
    rw [e8]
    exact ((((((fr.wr rfl).put rfl).put rfl).put rfl).put rfl).put rfl)
  refine h w8 f8 ⟨by omega, by omega, ?_, ?_, fun k hk => ?_⟩ ?_ ?_
  · rw [e8, rd_j (by decide), rd_j (by decide), rd_j (by decide), rd_s]
  · rw [e8, rd_j (by decide), rd_j (by decide), rd_s]; rfl
  · rw [f8.2 81 k (by simp [aBg])]
    exact hY k (by omega)
  · show w8.1 79 5 = oI none
    rw [e8, rd_j (by decide), rd_s]; rfl
  · rw [e8, rd_j (by decide), rd_j (by decide), rd_j (by decide), rd_j (by decide), rd_j (by decide), rd_s]; rfl
theorem R_copyB {d s : Nat} {X : s_Xo} {w : q_Sm} {Q : q_Sm → Prop} (hs : s ≤ 30) (h : ∀ u, fr (fun i _ => i == 108) w u → (∀ k, k < s → u.1 108 k = w.1 107 k) → Q u) : s_EvV (d + 1) 0 mX12_copies w [.ref 79, .ref 107, .ref 108, .int (nI s)] Q X := by
  have loop : ∀ j i (u : q_Sm), i + j = s → fr (fun i _ => i == 108) w u → (∀ k, k < i → u.1 108 k = w.1 107 k) → s_Ex (d + 1) 0 mX12_copies 3 [none, some (.ref 107), some (.ref 108), some (.int (nI s)), some (.int (nI i))] [] u (s_V Q) X := by
    intro j
    induction j with
    | zero =>
      intro i u hi fu hk
      have hi : i = s := by omega
      subst hi
      apply xX12_copies_3
      unfold vX12_copies_3
      rw [nI_leI (by omega) (by omega), s_Vn]
      exact ⟨fun _ => h u fu hk, fun z => absurd (by omega) z⟩
    | succ j ih =>
      intro i u hi fu hk
      have z1 : (q_sh 107).2 = 30 := rfl
      have z2 : (q_sh 108).2 = 30 := rfl
      apply xX12_copies_3
      unfold vX12_copies_3
      rw [nI_leI (by omega) (by omega), nI_clamp (by omega), nI_1 i, z1, z2]
      refine ⟨fun z => absurd z (by omega), fun _ => ⟨q_id_of rfl, (vp_nI (by omega)).mpr (by omega), q_id_of rfl, (vp_nI (by omega)).mpr (by omega), ?_⟩⟩
      rintro _ rfl
      refine ih (i + 1) _ (by omega) (fu.put rfl) (fun k hk2 => ?_)
      by_cases q : k = i
      · rw [q, rd_s, fu.2 107 i rfl]
      · rw [rd_j q]; exact hk k (by omega)
  apply eX12_copies
  unfold vX12_copies_0
  exact loop s 0 w (by omega) (fr.refl _ _) (fun k hk => absurd hk (by omega))
theorem Inv_book {T : Tb} {β C : Nat → Nat} {n : Nat} {S B B' : Nat → Nat} {m m' : Nat} {w z : q_Sm} (hC : Co T β C n S B m w) (hPst : pst T w) (hImg : img T w) (hCnt : cnt w)
    (gg : ∀ i j, i ≠ 2 → ¬ (44 ≤ i ∧ i ≤ 51) → ¬ (i = 79 ∧ (j ≤ 8 ∨ j = 55)) → i ≠ 107 → i ≠ 108 → z.1 i j = w.1 i j) (hid : ids z) (hi1 : z.2.2.1 = w.2.2.1) (hi2 : z.2.2.2.2.1 = w.2.2.2.2.1) (hbk : bk B' m' z) (h26 : z.1 2 6 = z.1 79 8) (h21 : z.1 2 1 = nI 0) (h792 : z.1 79 2 = nI 0) (h75 : z.2.1 75 0 = w.2.1 75 0) : Inv z := by
  obtain ⟨a1, a2, a3, a4, a5, a6, a7, a8⟩ := hC
  have ho := a2.1
  have hl := a2.2.1
  refine ⟨T, β, C, n, S, B', m', ⟨hid, ?_, a3.eq (fun i j q => gg i j (by omega) (by omega) (by omega) (by omega) (by omega)), a4.eq (fun j => gg _ _ (by omega) (by omega) (by omega) (by omega) (by omega)), a5.eq (fun j => gg _ _ (by omega) (by omega) (by omega) (by omega) (by omega)), a6, a7.eq (fun i j q => gg i j (by omega) (by omega) (by omega) (by omega) (by omega)), hbk⟩, hPst.eq (fun i j q => gg i j (by omega) (by omega) (by omega) (by omega) (by omega)), hImg.eq (fun i j q => gg i j (by omega) (by omega) (by omega) (by omega) (by omega)), ⟨0, fun _ => 0, by omega, h21, h792, fun k hk => absurd hk (by omega)⟩, ?_⟩
  · rw [hi1, hi2]
    refine ⟨a2.1, a2.2.1, a2.2.2.1, a2.2.2.2.1.eq (fun i j q q2 => gg i j (by omega) (by omega) (by omega) (by omega) (by omega)), a2.2.2.2.2.1, ?_, fun j hj => ?_⟩
    · rw [gg _ _ (by omega) (by omega) (by omega) (by omega) (by omega)]; exact a2.2.2.2.2.2.1
    · rw [gg _ _ (by omega) (by omega) (by omega) (by omega) (by omega)]; exact a2.2.2.2.2.2.2 j hj
  · obtain ⟨d1, d2, d3, d4⟩ := hCnt
    refine ⟨?_, ?_, ?_, h26, h75.trans d4.2⟩
    · rw [gg 1 13 (by omega) (by omega) (by omega) (by omega) (by omega), gg 80 0 (by omega) (by omega) (by omega) (by omega) (by omega)]; exact d1
    · rw [gg 1 14 (by omega) (by omega) (by omega) (by omega) (by omega), gg 80 1 (by omega) (by omega) (by omega) (by omega) (by omega)]; exact d2
    · rw [gg 1 12 (by omega) (by omega) (by omega) (by omega) (by omega), gg 79 46 (by omega) (by omega) (by omega) (by omega) (by omega)]; exact d3
