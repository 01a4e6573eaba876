/-! decades on the reference's side -/
def aD (i j : Nat) : Bool := aS i j || (i == 79 && (j == 63 || j == 64))
theorem aS_aD (i j : Nat) (h : aS i j = true) : aD i j = true := by simp [aD, h]
theorem aD_re {i j : Nat} (h : (i = 79 ∧ (29 ≤ j ∧ j ≤ 33 ∨ j = 40)) ∨ (89 ≤ i ∧ i ≤ 95) ∨ i = 98 ∨ i = 99) : aD i j = false := by
  unfold aD
  rw [aS_lo i j (by omega)]
  simp
  omega
theorem RE.d {n : Nat} {T : Tb} {C : Nat → Nat} {w u : q_Sm} (h : RE T C n w) (f : fr aD w u) : RE T C n u := h.eq (fun i j q => f.2 i j (aD_re q))
theorem RE.fog {n : Nat} {T : Tb} {C : Nat → Nat} {w : q_Sm} (h : RE T C n w) : w.1 79 33 = nI (T 7 4) := h.2.1.1.2.2.2.2
theorem r_goesOn {d n m : Nat} {s : Int32} {T : Tb} {β C S : Nat → Nat} {w : q_Sm} {Q : q_Sm → Prop} {X : s_Xo} (hE : RE T C n w) (hβ : ordered T β) (hS : rR 104 S w) (hB : rw2 T S) (hm : m ≤ 60)
    (h : ∀ u, fr aD w u → rR 105 (dN T β C n (S, s, 0, 0) m).1 u → u.1 79 64 = nI (dN T β C n (S, s, 0, 0) m).2.2.1 → Q u) : s_EvV (d + 7) 0 mX12_goesOn w [.ref 79, .int s, .int (nI m)] Q X := by
  have ht := hE.1
  have loop : ∀ i, i ≤ m → ∀ u, fr aD w u → rR 105 (dN T β C n (S, s, 0, 0) i).1 u → u.1 79 64 = nI (dN T β C n (S, s, 0, 0) i).2.2.1 → u.1 79 63 = (dN T β C n (S, s, 0, 0) i).2.1 →
      s_Ex (d + 7) 0 mX12_goesOn 16 [some (.ref 79), none, some (.int (nI m)), some (.int (nI i)), none, none] [] u (s_V Q) X := by
    refine n_down ?_ ?_
    · intro u hu hr h1 h2
      apply xX12_goesOn_16
      unfold vX12_goesOn_16
      exact ⟨fun _ => ⟨rfl, h u hu hr h1⟩, fun z => absurd (nI_le (Nat.le_refl _) (by omega)) z⟩
    · intro i hi ih u hu hr h1 h2
      have hR := rw_dN (C := C) (n := n) (x := (S, s, 0, 0)) ht hβ hB i
      have ihx : ∀ u, fr aD w u → rR 105 (dS T β C n (dN T β C n (S, s, 0, 0) i)).1 u → u.1 79 64 = nI (dS T β C n (dN T β C n (S, s, 0, 0) i)).2.2.1 → u.1 79 63 = sd1 (dN T β C n (S, s, 0, 0) i).2.1 →
        s_Ex (d + 7) 0 mX12_goesOn 16 [some (.ref 79), none, some (.int (nI m)), some (.int (nI (i + 1))), none, none] [] u (s_V Q) X := ih
      clear ih
      generalize hx : dN T β C n (S, s, 0, 0) i = x at *
      have fin : ∀ u2 R, R = dR T x → fr aD w u2 → rR 105 R u2 → u2.1 79 64 = nI (dS T β C n x).2.2.1 → u2.1 79 63 = sd1 x.2.1 →
          s_EvV (d + 6) 0 mX12_paysAll u2 [.ref 79] (fun u12 => s_EvI (d + 6) 0 mX12_goesNext u12 [.ref 79] (fun _ u14 => s_Ex (d + 7) 0 mX12_goesOn 16 [some (.ref 79), none, some (.int (nI m)), some (.int (nI i + 1)), none, none] [] u14 (s_V Q) X) X) X := by
        rintro u2 _ rfl hu2 hr2 g1 g2
        have hR2 := rw_dR ht hR
        refine r_paysAll (hE.d hu2) hβ hr2 hR2.1 (fun u3 hu3 hr3 => ?_)
        refine r_goes2 (hE.d (hu2.trans (hu3.mono aS_aD))) hr3 (rw_pb ht hβ hR2) (fun v u4 hu4 hr4 => ?_)
        rw [nI_1]
        refine ihx u4 ((hu2.trans (hu3.mono aS_aD)).trans (hu4.mono aS_aD)) hr4 ?_ ?_
        · rw [hu4.2 _ _ rfl, hu3.2 _ _ rfl, g1]
        · rw [hu4.2 _ _ rfl, hu3.2 _ _ rfl, g2]
      apply xX12_goesOn_16
      unfold vX12_goesOn_16
      refine ⟨fun z => absurd z (nI_ge hi (by omega)), fun _ => ?_⟩
      apply eX12_draws
      unfold vX12_draws_0
      rintro _ rfl
      rw [rd_s, h2, s_Ii, show x.2.1 * 1103515245 + 12345 = sd1 x.2.1 from rfl]
      rw [show (((sd1 x.2.1 >>> ((16 : Int32) &&& 31)) &&& 32767) - ((sd1 x.2.1 >>> ((16 : Int32) &&& 31)) &&& 32767) / 16 * 16) = drw (sd1 x.2.1) from rfl]
      rw [rd_j (by omega), hE.d hu |>.fog, rd_j (by omega), h1]
      have hu1 : fr aD w (q_wI u 79 63 (sd1 x.2.1)) := hu.put rfl
      have hr1 : rR 105 x.1 (q_wI u 79 63 (sd1 x.2.1)) := fun k hk => by rw [rd_i (by omega)]; exact hr k hk
      refine ⟨fun z => ⟨fun _ => ?_, fun q => absurd rfl q⟩, fun z => ⟨fun q => absurd q (by decide), fun _ => ?_⟩⟩
      · rintro _ rfl
        apply xX12_goesOn_61
        unfold vX12_goesOn_61
        refine ⟨fun q => absurd q (by decide), fun _ => ⟨fun _ => fin _ x.1 (if_pos z).symm (hu1.put rfl) (fun k hk => by rw [rd_i (by omega)]; exact hr1 k hk) ?_ ?_, fun q => absurd rfl q⟩⟩
        · rw [rd_s]
          show _ = nI (x.2.2.1 + (if nI (T 7 4) ≤ drw (sd1 x.2.1) then 0 else 1))
          rw [if_pos z, L_0, nI_add]
        · rw [rd_j (by omega), rd_s]
      · rintro _ rfl
        have inner : ∀ k, k ≤ 4 → ∀ u2, fr aD w u2 → rR 105 (lo x.1 k) u2 → u2.1 79 64 = nI (dS T β C n x).2.2.1 → u2.1 79 63 = sd1 x.2.1 → s_Ex (d + 7) 0 mX12_goesOn 61 [some (.ref 79), none, some (.int (nI m)), some (.int (nI i)), some (.int 1), some (.int (nI k))] [] u2 (s_V Q) X := by
          refine n_down ?_ ?_
          · intro u2 hu2 hr2 g1 g2
            apply xX12_goesOn_61
            unfold vX12_goesOn_61
            exact ⟨fun _ => fin u2 _ (if_neg z).symm hu2 hr2 g1 g2, fun q => absurd (show nI 4 ≤ nI 4 from nI_le (by omega) (by omega)) q⟩
          · intro k hk ih u2 hu2 hr2 g1 g2
            apply xX12_goesOn_61
            unfold vX12_goesOn_61
            refine ⟨fun q => absurd (show nI 4 ≤ nI k from q) (nI_ge hk (by omega)), fun _ => ⟨fun q => absurd q (by decide), fun _ => ?_⟩⟩
            rw [show (50 : Int32) = nI 50 from rfl, nI_add, nI_clamp (by omega), nI_1]
            refine ⟨(vp_nI (by omega)).mpr (by omega), ?_⟩
            rintro _ rfl
            exact ih _ (hu2.put rfl) hr2.put (by rw [rd_i (by omega)]; exact g1) (by rw [rd_i (by omega)]; exact g2)
        refine inner 0 (by omega) _ (hu1.put rfl) (fun k hk => by rw [rd_i (by omega)]; exact hr1 k hk) ?_ ?_
        · rw [rd_s]
          show _ = nI (x.2.2.1 + (if nI (T 7 4) ≤ drw (sd1 x.2.1) then 0 else 1))
          rw [if_neg z, nI_1]
        · rw [rd_j (by omega), rd_s]
  apply eX12_goesOn
  unfold vX12_goesOn_0
  refine r_take hS (fun u hu hr => ?_)
  rintro _ rfl _ rfl
  refine loop 0 (by omega) _ (((hu.mono aS_aD).put rfl).put rfl) (fun k hk => by rw [rd_i (by omega), rd_i (by omega)]; exact hr k hk) ?_ ?_
  · rw [rd_s]; rfl
  · rw [rd_j (by omega), rd_s]; rfl
/-- what was paid in all, by colours -/
def sp4 (S : Nat → Nat) : Nat := S 58 + S 59 + S 60 + S 61
theorem sp_py {T : Tb} {S : Nat → Nat} {d m : Nat} (hd : d < 10) (hc : cl T d < 4) : sp4 (pyS T S d m) = sp4 S + m := by
  unfold sp4 pyS
  obtain e | e | e | e : cl T d = 0 ∨ cl T d = 1 ∨ cl T d = 2 ∨ cl T d = 3 := by omega
  all_goals rw [e]; simp (disch := omega) only [up_n, up_s, Nat.reduceAdd]; omega
theorem sp_pa {T : Tb} {β S : Nat → Nat} (ht : tb T) (hβ : ordered T β) : ∀ i, i ≤ T 7 1 → sp4 (pa T β S i) = sp4 S + pp T β S i := by
  intro i
  induction i with
  | zero => intro _; rfl
  | succ i ih =>
    intro hi
    have hb := tb_nd ht
    have hd := hβ.1 i (by omega)
    show sp4 (pyS T (pa T β S i) (β i) (pam T (pa T β S i) (β i))) = sp4 S + (pp T β S i + pam T (pa T β S i) (β i))
    rw [sp_py (by omega) (tb_cl ht hd), ih (by omega)]
    omega
theorem sp_nx {T : Tb} {C : Nat → Nat} {n : Nat} {S : Nat → Nat} (ht : tb T) : sp4 (nx T C n S) = sp4 S := by
  unfold nx
  split
  · rfl
  · unfold sp4
    rw [show (58 : Nat) = 58 + 0 from rfl, show (59 : Nat) = 58 + 1 from rfl, show (60 : Nat) = 58 + 2 from rfl, show (61 : Nat) = 58 + 3 from rfl, (ps_k ht (by omega)).2.2, (ps_k ht (by omega)).2.2, (ps_k ht (by omega)).2.2, (ps_k ht (by omega)).2.2]
theorem sp_lo {S : Nat → Nat} : sp4 (lo S 4) = sp4 S := by
  unfold sp4
  rw [lo_o _ (by omega) (by omega), lo_o _ (by omega) (by omega), lo_o _ (by omega) (by omega), lo_o _ (by omega) (by omega)]
theorem sp_dN {T : Tb} {β C : Nat → Nat} {n : Nat} {S : Nat → Nat} {s : Int32} (ht : tb T) (hβ : ordered T β) : ∀ k, sp4 (dN T β C n (S, s, 0, 0) k).1 = sp4 S + (dN T β C n (S, s, 0, 0) k).2.2.2 := by
  intro k
  induction k with
  | zero => rfl
  | succ k ih =>
    show sp4 (nx T C n (pb T β (dR T (dN T β C n (S, s, 0, 0) k)))) = sp4 S + ((dN T β C n (S, s, 0, 0) k).2.2.2 + pp T β (dR T (dN T β C n (S, s, 0, 0) k)) (T 7 1))
    have e : sp4 (dR T (dN T β C n (S, s, 0, 0) k)) = sp4 (dN T β C n (S, s, 0, 0) k).1 := by
      unfold dR
      split
      · rfl
      · exact sp_lo
    rw [sp_nx ht]
    unfold pb
    rw [sp_pa ht hβ _ (Nat.le_refl _), e, ih]
    omega
theorem r_spentIn {d c : Nat} {S : Nat → Nat} {w : q_Sm} {Q : Int32 → q_Sm → Prop} {X : s_Xo} (hc : c = 104 ∨ c = 105) (hS : rR c S w) (h : Q (nI (sp4 S)) w) : s_EvI (d + 1) 0 mX12_spentIn w [.ref 79, .ref c] Q X := by
  have h1 : q_id 116 14 c := by rcases hc with rfl | rfl <;> exact q_id_of rfl
  have h2 : (q_sh c).2 = 63 := by rcases hc with rfl | rfl <;> rfl
  apply eX12_spentIn
  unfold vX12_spentIn_0
  rw [h2]
  try simp (disch := omega) only [s_Ii, s_Jj, s_Vn, forall_eq, L_m1, nI_add, nI_clamp, nI_leI, nI_ltI, nI_eq, vp_nI, pk_mul, pk_sub, Nat.zero_add, Nat.add_zero, wr_2, Classical.not_not, true_and, and_true, ne_eq, false_implies, true_implies, implies_true, not_true_eq_false, not_false_eq_true, ia_0, ia_1, za_1, ia_2, za_2, ia_3, za_3, ia_4, za_4, ia_5, za_5, ia_6, za_6, ia_7, za_7, ia_8, za_8, ia_9, za_9, ia_10, za_10, ia_11, za_11, ia_12, za_12, ia_13, za_13, ia_14, za_14, ia_15, za_15, ib_0, ib_1, zb_1, ic_0, ic_1, ic_2, ic_3, zc_1, zc_2, zc_3, id_0, id_1, id_2, id_3, zd_1, zd_2, zd_3, L_0, L_1, L_2, L_3, L_4, L_5, L_6, L_7, L_8, L_9, L_10, L_11, L_12, L_13, L_14, L_15, L_16, L_17, L_18, L_19, L_20, L_24, L_27, L_30, L_31, L_32, L_35, L_36, L_40, L_41, L_43, L_44, L_45, L_46, L_47, L_48, L_50, L_54, L_57, L_58, L_59, L_60, L_61, L_62, L_63, L_91, L_93, L_96, L_97, L_98, L_99, L_100, L_103, L_122, L_145, L_150, L_200, L_255, L_600, L_999, L_1000, L_2000, L_9999, L_10000, L_32767, L_12345, oI_s, oI_n, L_mn, if_true, if_false, ite_true, ite_false, Bool.false_eq_true, Nat.reduceEqDiff, Nat.reduceLeDiff, Nat.reduceLT, Nat.reduceAdd, Nat.reduceSub, Nat.reduceMul, Nat.le_refl, Nat.lt_irrefl, Nat.not_lt_zero, hS _, h1]
  exact h
