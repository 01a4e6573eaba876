/-! the coast's text: clauses, their order, all of it -/
theorem K_order {d o : Nat} {T : Tb} {X : s_Xo} {w : q_Sm} {Q : q_Sm → Prop} (ho : o = 4 ∨ o = 20) (ht : tb T) (hD : cD o T w) (h : ∀ u β, fr (fun i _ => i == o + 8) w u → ordered T β → holds (o + 8) (T 7 1) β u → Q u) : s_EvV (d + 1) 0 mX2_orderByTerm w [.ref o] Q X := by
  have h10 := tb_nd ht
  have hid := ia_0 ho
  have z8 : (q_sh (o + 8)).2 = 10 := za_8 ho
  have z7 : (q_sh (o + 7)).2 = 10 := za_7 ho
  have hf0 : ∀ {u : q_Sm}, fr (fun i _ => i == o + 8) w u → u.1 o 3 = nI (T 7 1) ∧ ∀ i, i < T 7 1 → u.1 (o + 7) i = nI (tm T i) := by
    intro u fu
    refine ⟨?_, fun i hi => ?_⟩
    · rw [fu.2 o 3 (by simp)]; exact hD.1.2.1
    · rw [fu.2 (o + 7) i (by simp)]; exact hD.2.2.1.2.2.2.2 i hi
  have outer : ∀ j k (u : q_Sm) (β : Nat → Nat), k + j = T 7 1 → fr (fun i _ => i == o + 8) w u → (∀ i, i < k → u.1 (o + 8) i = nI (β i)) → (∀ i, i < k → β i < k) → (∀ i j, i < j → j < k → ahead T (β i) (β j)) → s_Ex (d + 1) 0 mX2_orderByTerm 2 [some (.ref o), some (.int (nI k)), none] [] u (s_V Q) X := by
    intro j
    induction j with
    | zero =>
      intro k u β hk fu h1 h2 h3
      have hk : k = T 7 1 := by omega
      subst hk
      apply xX2_orderByTerm_2
      unfold vX2_orderByTerm_2
      rw [(hf0 fu).1, nI_leI (by omega) (by omega), s_Vn]
      exact ⟨hid, fun _ => h u β fu ⟨h2, h3⟩ h1, fun z => absurd (Nat.le_refl _) z⟩
    | succ j ih =>
      intro k u β hk fu h1 h2 h3
      apply xX2_orderByTerm_2
      unfold vX2_orderByTerm_2
      rw [(hf0 fu).1, nI_leI (by omega) (by omega)]
      refine ⟨hid, fun z => absurd z (by omega), fun _ => ?_⟩
      -- the place of k
      have put : ∀ s (v : q_Sm), s ≤ k → fr (fun i _ => i == o + 8) w v → (∀ i, i < s → v.1 (o + 8) i = nI (β i)) → (∀ i, s ≤ i → i < k → v.1 (o + 8) (i + 1) = nI (β i)) → (∀ i, s ≤ i → i < k → tm T k < tm T (β i)) → (s = 0 ∨ tm T (β (s - 1)) ≤ tm T k) → ∀ v2, v2 = q_wI v (o + 8) s (nI k) → s_Ex (d + 1) 0 mX2_orderByTerm 2 [some (.ref o), some (.int (nI (k + 1))), none] [] v2 (s_V Q) X := by
        intro s v hs fv c1 c2 c3 c4 v2 e2
        refine ih (k + 1) v2 (fun i => if i < s then β i else if i = s then k else β (i - 1)) (by omega) (by rw [e2]; exact fv.put (by simp)) (fun i hi => ?_) (fun i hi => ?_) (fun i j hij hj => ?_)
        · show v2.1 (o + 8) i = nI (if i < s then β i else if i = s then k else β (i - 1))
          by_cases q : i < s
          · rw [if_pos q, e2, rd_j (by omega)]
            exact c1 i q
          · rw [if_neg q]
            by_cases q2 : i = s
            · rw [if_pos q2, q2, e2, rd_s]
            · rw [if_neg q2, e2, rd_j (by omega)]
              have := c2 (i - 1) (by omega) (by omega)
              rw [show i - 1 + 1 = i by omega] at this
              exact this
        · show (if i < s then β i else if i = s then k else β (i - 1)) < k + 1
          by_cases q : i < s
          · rw [if_pos q]
            have := h2 i (by omega)
            omega
          · rw [if_neg q]
            by_cases q2 : i = s
            · rw [if_pos q2]; omega
            · rw [if_neg q2]
              have := h2 (i - 1) (by omega)
              omega
        · show ahead T (if i < s then β i else if i = s then k else β (i - 1)) (if j < s then β j else if j = s then k else β (j - 1))
          -- those ahead of the place are ahead of k, those behind it behind
          have lo : ∀ i, i < s → ahead T (β i) k := by
            intro i hi
            have hb := h2 i (by omega)
            have : tm T (β i) ≤ tm T k := by
              rcases c4 with y | y
              · omega
              · by_cases e : i = s - 1
                · rw [e]; exact y
                · have := h3 i (s - 1) (by omega) (by omega)
                  unfold ahead at this
                  unfold tm at *
                  omega
            unfold ahead
            unfold tm at this
            omega
          have up1 : ∀ i, s ≤ i → i < k → ahead T k (β i) := by
            intro i q1 q2
            have := c3 i q1 q2
            unfold ahead
            unfold tm at this
            omega
          by_cases q : i < s
          · rw [if_pos q]
            by_cases q2 : j < s
            · rw [if_pos q2]
              exact h3 i j hij (by omega)
            · rw [if_neg q2]
              by_cases q3 : j = s
              · rw [if_pos q3]
                exact lo i q
              · rw [if_neg q3]
                by_cases e : i = j - 1
                · omega
                · exact h3 i (j - 1) (by omega) (by omega)
          · rw [if_neg q, if_neg (by omega : ¬ j < s), if_neg (by omega : ¬ j = s)]
            by_cases q3 : i = s
            · rw [if_pos q3]
              exact up1 (j - 1) (by omega) (by omega)
            · rw [if_neg q3]
              exact h3 (i - 1) (j - 1) (by omega) (by omega)
      have inner : ∀ s (v : q_Sm), s ≤ k → fr (fun i _ => i == o + 8) w v → (∀ i, i < s → v.1 (o + 8) i = nI (β i)) → (∀ i, s ≤ i → i < k → v.1 (o + 8) (i + 1) = nI (β i)) → (∀ i, s ≤ i → i < k → tm T k < tm T (β i)) → s_Ex (d + 1) 0 mX2_orderByTerm 12 [some (.ref o), some (.int (nI k)), some (.int (nI s))] [] v (s_V Q) X := by
        intro s
        induction s with
        | zero =>
          intro v hs fv c1 c2 c3
          apply xX2_orderByTerm_12
          unfold vX2_orderByTerm_12
          rw [nI_1 k, z8]
          refine ⟨fun _ => ⟨hid, ia_8 ho, (vp_nI (by omega)).mpr (by omega), fun v2 e2 => put 0 v hs fv c1 c2 c3 (Or.inl rfl) v2 e2⟩, fun z => absurd (by decide) z⟩
        | succ s ihs =>
          intro v hs fv c1 c2 c3
          have hc := c1 s (by omega)
          have hb := h2 s (by omega)
          have e1 : nI (s + 1) - nI 1 = nI (s + 1 - 1) := pk_sub (by omega)
          have e1 : nI (s + 1) - 1 = nI s := e1
          have e2 : nI (s + 1) + -1 = nI s := nI_m1 (by omega)
          apply xX2_orderByTerm_12
          unfold vX2_orderByTerm_12
          rw [e1, e2, nI_1 k, nI_clamp (show s < 2 ^ 31 by omega), hc, nI_clamp (show β s < 2 ^ 31 by omega), nI_clamp (show k < 2 ^ 31 by omega), nI_clamp (show s + 1 < 2 ^ 31 by omega), (hf0 fv).2 _ (by omega), (hf0 fv).2 k (by omega), z8, z7, L_0, nI_leI (by omega) (by omega), nI_leI (by have := tb_tm ht (d := β s) (by omega); omega) (by have := tb_tm ht (d := k) (by omega); omega)]
          have i1 : vp_in (nI s) 10 := (vp_nI (by omega)).mpr (by omega)
          have i2 : vp_in (nI (s + 1)) 10 := (vp_nI (by omega)).mpr (by omega)
          have i3 : vp_in (nI (β s)) 10 := (vp_nI (by omega)).mpr (by omega)
          have i4 : vp_in (nI k) 10 := (vp_nI (by omega)).mpr (by omega)
          refine ⟨fun z => absurd z (by omega), fun _ => ⟨hid, hid, ia_8 ho, i1, ia_7 ho, i3, hid, ia_7 ho, i4, fun z => ⟨hid, ia_8 ho, i2, fun v2 e2 => put (s + 1) v hs fv c1 c2 c3 (Or.inr z) v2 e2⟩, fun z => ⟨hid, hid, ia_8 ho, i1, ia_8 ho, i2, fun v2 e2 => ?_⟩⟩⟩
          refine ihs v2 (by omega) (by rw [e2]; exact fv.put (by simp)) (fun i hi => ?_) (fun i q1 q2 => ?_) (fun i q1 q2 => ?_)
          · rw [e2, rd_j (by omega)]
            exact c1 i (by omega)
          · by_cases q : i = s
            · rw [q, e2, rd_s]
            · rw [e2, rd_j (by omega)]
              exact c2 i (by omega) q2
          · by_cases q : i = s
            · rw [q]
              omega
            · exact c3 i (by omega) q2
      exact inner k u (Nat.le_refl _) fu h1 (fun i q1 q2 => by omega) (fun i q1 q2 => by omega)
  apply eX2_orderByTerm
  unfold vX2_orderByTerm_0
  exact outer (T 7 1) 0 w (fun _ => 0) (by omega) (fr.refl _ _) (fun i hi => absurd hi (by omega)) (fun i hi => absurd hi (by omega)) (fun i j _ hj => absurd hj (by omega))
/-- a clause and its sign: a fault, or more is told -/
def ocl (o N : Nat) (Y : Nat → Nat) (cl a : Nat) (T : Tb) : Prop :=
  (∃ y, (∀ d X rm (w : q_Sm) (R : q_Sm → Prop), flg rm (cl < 60) → tC N Y a w → fC none w → cD o T w → (∀ u, fr (aCo o) w u → fC (some y) u → (∃ b, tC N Y b u) → (∃ T', tb T' ∧ cD o T' u) → R u) → s_EvV (d + 8) 0 mX2_readClause w [.ref o, .ref 2, .int rm] (fun u10 => s_EvV (d + 8) 0 mX10_need u10 [.ref 2, .int 59] R X) X) ∧
    (∀ d X b (w : q_Sm) (Q : s_Po), sk N Y b = sk N Y a → tR N Y b w → fR none w → rD T w → (∀ u, fr aRc w u → fR (some y) u → s_Ex (d + 10) 0 mX12_coast 329 [some (.ref 79), none, none, none, none, none] [] u Q X) → s_Ex (d + 10) 0 mX12_coast 44 [some (.ref 79), none, some (.int (nI cl)), none, none, none] [] w Q X)) ∨
  (∃ a' T', cl < 60 ∧ tb T' ∧ (∀ d X rm (w : q_Sm) (R : q_Sm → Prop), flg rm (cl < 60) → tC N Y a w → fC none w → cD o T w → (∀ u, fr (aCo o) w u → tC N Y a' u → fC none u → cD o T' u → R u) → s_EvV (d + 8) 0 mX2_readClause w [.ref o, .ref 2, .int rm] (fun u10 => s_EvV (d + 8) 0 mX10_need u10 [.ref 2, .int 59] R X) X) ∧
    (∀ d X b (w : q_Sm) (Q : s_Po), sk N Y b = sk N Y a → tR N Y b w → fR none w → rD T w → (∀ u, fr aRc w u → tR N Y a' u → fR none u → rD T' u → s_Ex (d + 10) 0 mX12_coast 44 [some (.ref 79), none, some (.int (nI (cl + 1))), none, none, none] [] u Q X) → s_Ex (d + 10) 0 mX12_coast 44 [some (.ref 79), none, some (.int (nI cl)), none, none, none] [] w Q X))
theorem clause_mk {o N a cl A2 : Nat} {Y : Nat → Nat} {T T' : Tb} {F : Option (Nat × Nat)} {room : Prop} (ho : o = 4 ∨ o = 20) (ht : tb T) (hcl : cl ≤ 60) (hs : sk N Y a < N) (hkn : kno N Y (sk N Y a))
    (kc : ∀ d X rm (w : q_Sm) (Q : q_Sm → Prop), flg rm (cl < 60) → tC N Y a w → fC none w → cD o T w → (∀ u fa, (fa = none ∧ room) ∨ (fa = some (3, sk N Y a) ∧ ¬ room) → fr (aCo o) w u → tC N Y A2 u → fC (orf fa F) u → (orf fa F = none → cD o T' u) → (orf fa F ≠ none → cD o T u) → Q u) → s_EvV (d + 8) 0 mX2_readClause w [.ref o, .ref 2, .int rm] Q X)
    (rl : room ↔ ¬ lmt N Y (sk N Y a) cl T) (rc : room → cl < 60)
    (rg : room → ∀ d X (w : q_Sm) (Q : s_Po) x3 x4, tR N Y (sk N Y a) w → fR none w → rD T w → flg x3 (wA N Y (sk N Y a) 0) → flg x4 (wA N Y (sk N Y a) 9) → (∀ u, fr aRc w u → fR (orf F (sig N Y 59 A2).1) u → (orf F (sig N Y 59 A2).1 = none → tR N Y (sig N Y 59 A2).2 u ∧ rD T' u) → s_Ex (d + 10) 0 mX12_coast 44 [some (.ref 79), none, some (.int (nI (cl + 1))), none, none, none] [] u Q X) → s_Ex (d + 10) 0 mX12_coast 242 [some (.ref 79), none, some (.int (nI cl)), some (.int x3), some (.int x4), some (.int (nI (wv6 N Y (sk N Y a))))] [] w Q X)
    (htb : room → F = none → tb T') : ocl o N Y cl a T := by
  by_cases hr : room
  · have rgo : ∀ d X b (w : q_Sm) (Q : s_Po), sk N Y b = sk N Y a → tR N Y b w → fR none w → rD T w → (∀ u, fr aRc w u → fR (orf F (sig N Y 59 A2).1) u → (orf F (sig N Y 59 A2).1 = none → tR N Y (sig N Y 59 A2).2 u ∧ rD T' u) → s_Ex (d + 10) 0 mX12_coast 44 [some (.ref 79), none, some (.int (nI (cl + 1))), none, none, none] [] u Q X) → s_Ex (d + 10) 0 mX12_coast 44 [some (.ref 79), none, some (.int (nI cl)), none, none, none] [] w Q X := by
      intro d X b w Q hb hT hf hD h
      have r44 := R_44 (d := d) (cl := cl) (X := X) (Q := Q) hT hf
      rw [hb] at r44
      refine r44 hs (fun _ u x3 x4 fu tu ffu h3 h4 => ?_) (fun z => absurd hkn z)
      refine R_161 ht hcl tu ffu (hD.x fu) h3 h4 (fun z => absurd z (rl.mp hr)) (fun _ => ?_)
      exact rg hr d X u Q x3 x4 tu ffu (hD.x fu) h3 h4 (fun u2 f2 ff2 c2 => h u2 ((aRc_x fu).trans f2) ff2 c2)
    cases hG : orf F (sig N Y 59 A2).1 with
    | some y =>
      refine Or.inl ⟨y, fun d X rm w R hrm hT hf hD h => ?_, fun d X b w Q hb hT hf hD h => ?_⟩
      · refine kc d X rm w _ hrm hT hf hD (fun u fa hfa fu tu ffu c1 c2 => ?_)
        rcases hfa with ⟨e, _⟩ | ⟨_, e⟩
        · subst e
          refine K_need (d := d + 5) (c := 59) (by decide) tu ffu (fun u2 a' f2 t2 _ ff2 => ?_)
          rw [orf_a, orf_none, hG] at ff2
          refine h u2 (fu.trans (aCo_T f2)) ff2 ⟨a', t2⟩ ?_
          by_cases q : orf none F = none
          · exact ⟨T', htb hr q, (c1 q).T ho f2⟩
          · exact ⟨T, ht, (c2 q).T ho f2⟩
        · exact absurd hr e
      · refine rgo d X b w Q hb hT hf hD (fun u fu ffu _ => ?_)
        rw [hG] at ffu
        apply xX12_coast_44
        unfold vX12_coast_44
        exact R_fine ffu (fun z => by simp at z) (fun _ => ⟨fun _ => h u fu ffu, fun z => absurd rfl z⟩)
    | none =>
      obtain ⟨hF, hS⟩ := orf_nn.mp hG
      refine Or.inr ⟨(sig N Y 59 A2).2, T', rc hr, htb hr hF, fun d X rm w R hrm hT hf hD h => ?_, fun d X b w Q hb hT hf hD h => ?_⟩
      · refine kc d X rm w _ hrm hT hf hD (fun u fa hfa fu tu ffu c1 c2 => ?_)
        rcases hfa with ⟨e, _⟩ | ⟨_, e⟩
        · subst e
          rw [orf_none, hF] at ffu
          refine K_need (d := d + 5) (c := 59) (by decide) tu ffu (fun u2 a' f2 t2 ha ff2 => ?_)
          rw [hS] at ff2
          have ha := ha rfl
          subst ha
          exact h u2 (fu.trans (aCo_T f2)) t2 ff2 ((c1 hF).T ho f2)
        · exact absurd hr e
      · refine rgo d X b w Q hb hT hf hD (fun u fu ffu c => ?_)
        rw [hG] at ffu
        obtain ⟨c1, c2⟩ := c hG
        exact h u fu c1 ffu c2
  · refine Or.inl ⟨(3, sk N Y a), fun d X rm w R hrm hT hf hD h => ?_, fun d X b w Q hb hT hf hD h => ?_⟩
    · refine kc d X rm w _ hrm hT hf hD (fun u fa hfa fu tu ffu c1 c2 => ?_)
      rcases hfa with ⟨_, e⟩ | ⟨e, _⟩
      · exact absurd e hr
      · subst e
        refine K_need (d := d + 5) (c := 59) (by decide) tu ffu (fun u2 a' f2 t2 _ ff2 => ?_)
        exact h u2 (fu.trans (aCo_T f2)) ff2 ⟨a', t2⟩ ⟨T, ht, (c2 (by simp [orf])).T ho f2⟩
    · have r44 := R_44 (d := d) (cl := cl) (X := X) (Q := Q) hT hf
      rw [hb] at r44
      refine r44 hs (fun _ u x3 x4 fu tu ffu h3 h4 => ?_) (fun z => absurd hkn z)
      refine R_161 ht hcl tu ffu (hD.x fu) h3 h4 (fun _ u2 f2 ff2 => h u2 (aRc_x (fu.trans f2)) ff2) (fun z => absurd (rl.mpr z) hr)
theorem clause_of {o N a cl : Nat} {Y : Nat → Nat} {T : Tb} (ho : o = 4 ∨ o = 20) (ht : tb T) (hcl : cl ≤ 60) (hs : sk N Y a < N) : ocl o N Y cl a T := by
  obtain ⟨t0, t1, t2, t3, t4⟩ := id ht.1
  by_cases hw0 : wA N Y (sk N Y a) 0
  · have hw := hw0
    have x9 : ¬ wA N Y (sk N Y a) 9 := wA_x hw (by decide +kernel)
    have x1 : ¬ wA N Y (sk N Y a) 1 := wA_x hw (by decide +kernel)
    have x6 : ¬ wA N Y (sk N Y a) 6 := wA_x hw (by decide +kernel)
    refine clause_mk (A2 := crA N Y T (rn N (pL Y) (sk N Y a))) (T' := crT N Y T (rn N (pL Y) (sk N Y a))) (F := crF N Y T (rn N (pL Y) (sk N Y a))) (room := (cl < 60 ∧ T 7 0 < 6)) ho ht hcl hs (Or.inl hw) (fun d X rm w Q hrm hT hf hD h => K_clcr ho ht hw hrm hT hf hD h) ⟨fun hr q => ?_, fun q => ?_⟩ (fun hr => hr.1) (fun hr d X w Q x3 x4 hT hf hD h3 h4 h => R_gocr ht hw hr.2 hT hf hD h3 h4 h) (fun hr hF => tb_cred ht hr.2 (num_v (show 0 ≤ 19 by omega)).2 (num_v (show 0 ≤ 20 by omega)).2)
    · rcases q with q | q | q | q | q
      · omega
      · have := q.2
        omega
      · exact x9 q.1
      · exact x1 q.1
      · exact x6 q.1
    · refine ⟨?_, ?_⟩
      · have : cl ≠ 60 := fun e => q (Or.inl e)
        omega
      · have : T 7 0 ≠ 6 := fun e => q (Or.inr (Or.inl ⟨hw, e⟩))
        omega
  by_cases hw1 : wA N Y (sk N Y a) 1
  · have hw := hw1
    have x0 : ¬ wA N Y (sk N Y a) 0 := wA_x hw (by decide +kernel)
    have x9 : ¬ wA N Y (sk N Y a) 9 := wA_x hw (by decide +kernel)
    have x6 : ¬ wA N Y (sk N Y a) 6 := wA_x hw (by decide +kernel)
    refine clause_mk (A2 := dbA N Y T (rn N (pL Y) (sk N Y a))) (T' := dbT N Y T (rn N (pL Y) (sk N Y a))) (F := dbF N Y T (rn N (pL Y) (sk N Y a))) (room := (cl < 60 ∧ T 7 1 < 10)) ho ht hcl hs (Or.inr (Or.inr (Or.inl hw))) (fun d X rm w Q hrm hT hf hD h => K_cldb ho ht hw0 hw hrm hT hf hD h) ⟨fun hr q => ?_, fun q => ?_⟩ (fun hr => hr.1) (fun hr d X w Q x3 x4 hT hf hD h3 h4 h => R_godb ht hw hr.2 hT hf hD h3 h4 h) (fun hr hF => tb_debt ht hr.2 (numH_v (orf_nn.mp hF).1).2 col_v (num_v (show 1 ≤ 99 by omega)) (num_v (show 0 ≤ 16 by omega)).2 (num_v (show 0 ≤ 60 by omega)).2)
    · rcases q with q | q | q | q | q
      · omega
      · exact x0 q.1
      · exact x9 q.1
      · have := q.2
        omega
      · exact x6 q.1
    · refine ⟨?_, ?_⟩
      · have : cl ≠ 60 := fun e => q (Or.inl e)
        omega
      · have : T 7 1 ≠ 10 := fun e => q (Or.inr (Or.inr (Or.inr (Or.inl ⟨hw, e⟩))))
        omega
  by_cases hw6 : wA N Y (sk N Y a) 6
  · have hw := hw6
    have x0 : ¬ wA N Y (sk N Y a) 0 := wA_x hw (by decide +kernel)
    have x9 : ¬ wA N Y (sk N Y a) 9 := wA_x hw (by decide +kernel)
    have x1 : ¬ wA N Y (sk N Y a) 1 := wA_x hw (by decide +kernel)
    refine clause_mk (A2 := dkA N Y T (rn N (pL Y) (sk N Y a))) (T' := dkT N Y T (rn N (pL Y) (sk N Y a))) (F := dkF N Y T (rn N (pL Y) (sk N Y a))) (room := (cl < 60 ∧ T 7 2 < 12)) ho ht hcl hs (Or.inr (Or.inr (Or.inr (Or.inl hw)))) (fun d X rm w Q hrm hT hf hD h => K_cldk ho ht hw0 hw1 hw hrm hT hf hD h) ⟨fun hr q => ?_, fun q => ?_⟩ (fun hr => hr.1) (fun hr d X w Q x3 x4 hT hf hD h3 h4 h => R_godk ht x1 hw hr.2 hT hf hD h3 h4 h) (fun hr hF => tb_dusk ht hr.2 (fun k _ => (num_v (show 0 ≤ 40 by omega)).2))
    · rcases q with q | q | q | q | q
      · omega
      · exact x0 q.1
      · exact x9 q.1
      · exact x1 q.1
      · have := q.2
        omega
    · refine ⟨?_, ?_⟩
      · have : cl ≠ 60 := fun e => q (Or.inl e)
        omega
      · have : T 7 2 ≠ 12 := fun e => q (Or.inr (Or.inr (Or.inr (Or.inr ⟨hw, e⟩))))
        omega
  by_cases hw7 : wA N Y (sk N Y a) 7
  · have hw := hw7
    have x0 : ¬ wA N Y (sk N Y a) 0 := wA_x hw (by decide +kernel)
    have x9 : ¬ wA N Y (sk N Y a) 9 := wA_x hw (by decide +kernel)
    have x1 : ¬ wA N Y (sk N Y a) 1 := wA_x hw (by decide +kernel)
    have x6 : ¬ wA N Y (sk N Y a) 6 := wA_x hw (by decide +kernel)
    refine clause_mk (A2 := rgA N Y T (rn N (pL Y) (sk N Y a))) (T' := rgT N Y T (rn N (pL Y) (sk N Y a))) (F := rgF N Y T (rn N (pL Y) (sk N Y a))) (room := (cl < 60)) ho ht hcl hs (Or.inr (Or.inr (Or.inr (Or.inr (Or.inl hw))))) (fun d X rm w Q hrm hT hf hD h => K_clrg ho ht hw0 hw1 hw6 hw hrm hT hf hD h) ⟨fun hr q => ?_, fun q => ?_⟩ (fun hr => hr) (fun hr d X w Q x3 x4 hT hf hD h3 h4 h => R_gorg ht x1 x6 hw hT hf hD h3 h4 h) (fun hr hF => tb_ridge ht (num_v (show 0 ≤ 20 by omega)).2)
    · rcases q with q | q | q | q | q
      · omega
      · exact x0 q.1
      · exact x9 q.1
      · exact x1 q.1
      · exact x6 q.1
    · have : cl ≠ 60 := fun e => q (Or.inl e)
      omega
  by_cases hw8 : wA N Y (sk N Y a) 8
  · have hw := hw8
    have x0 : ¬ wA N Y (sk N Y a) 0 := wA_x hw (by decide +kernel)
    have x9 : ¬ wA N Y (sk N Y a) 9 := wA_x hw (by decide +kernel)
    have x1 : ¬ wA N Y (sk N Y a) 1 := wA_x hw (by decide +kernel)
    have x6 : ¬ wA N Y (sk N Y a) 6 := wA_x hw (by decide +kernel)
    have y7 : ¬ wA N Y (sk N Y a) 7 := wA_x hw (by decide +kernel)
    refine clause_mk (A2 := lpA N Y T (rn N (pL Y) (sk N Y a))) (T' := lpT N Y T (rn N (pL Y) (sk N Y a))) (F := lpF N Y T (rn N (pL Y) (sk N Y a))) (room := (cl < 60)) ho ht hcl hs (Or.inr (Or.inr (Or.inr (Or.inr (Or.inr (Or.inl hw)))))) (fun d X rm w Q hrm hT hf hD h => K_cllp ho ht hw0 hw1 hw6 hw7 hw hrm hT hf hD h) ⟨fun hr q => ?_, fun q => ?_⟩ (fun hr => hr) (fun hr d X w Q x3 x4 hT hf hD h3 h4 h => R_golp ht x1 x6 y7 hw hT hf hD h3 h4 h) (fun hr hF => tb_lamp ht (num_v (show 0 ≤ 99 by omega)).2)
    · rcases q with q | q | q | q | q
      · omega
      · exact x0 q.1
      · exact x9 q.1
      · exact x1 q.1
      · exact x6 q.1
    · have : cl ≠ 60 := fun e => q (Or.inl e)
      omega
  by_cases hw9 : wA N Y (sk N Y a) 9
  · have hw := hw9
    have x0 : ¬ wA N Y (sk N Y a) 0 := wA_x hw (by decide +kernel)
    have x1 : ¬ wA N Y (sk N Y a) 1 := wA_x hw (by decide +kernel)
    have x6 : ¬ wA N Y (sk N Y a) 6 := wA_x hw (by decide +kernel)
    refine clause_mk (A2 := wdA N Y T (rn N (pL Y) (sk N Y a))) (T' := wdT N Y T (rn N (pL Y) (sk N Y a))) (F := wdF N Y T (rn N (pL Y) (sk N Y a))) (room := (cl < 60 ∧ T 7 3 < 6)) ho ht hcl hs (Or.inr (Or.inl hw)) (fun d X rm w Q hrm hT hf hD h => K_clwd ho ht hw0 hw1 hw6 hw7 hw8 hw hrm hT hf hD h) ⟨fun hr q => ?_, fun q => ?_⟩ (fun hr => hr.1) (fun hr d X w Q x3 x4 hT hf hD h3 h4 h => R_gowd ht hw hr.2 hT hf hD h3 h4 h) (fun hr hF => tb_wed ht hr.2 col_v (num_v (show 1 ≤ 40 by omega)) (num_v (show 0 ≤ 60 by omega)).2)
    · rcases q with q | q | q | q | q
      · omega
      · exact x0 q.1
      · have := q.2
        omega
      · exact x1 q.1
      · exact x6 q.1
    · refine ⟨?_, ?_⟩
      · have : cl ≠ 60 := fun e => q (Or.inl e)
        omega
      · have : T 7 3 ≠ 6 := fun e => q (Or.inr (Or.inr (Or.inl ⟨hw, e⟩)))
        omega
  by_cases hw10 : wA N Y (sk N Y a) 10
  · have hw := hw10
    have x0 : ¬ wA N Y (sk N Y a) 0 := wA_x hw (by decide +kernel)
    have x9 : ¬ wA N Y (sk N Y a) 9 := wA_x hw (by decide +kernel)
    have x1 : ¬ wA N Y (sk N Y a) 1 := wA_x hw (by decide +kernel)
    have x6 : ¬ wA N Y (sk N Y a) 6 := wA_x hw (by decide +kernel)
    have y7 : ¬ wA N Y (sk N Y a) 7 := wA_x hw (by decide +kernel)
    have y8 : ¬ wA N Y (sk N Y a) 8 := wA_x hw (by decide +kernel)
    refine clause_mk (A2 := fgA N Y T (rn N (pL Y) (sk N Y a))) (T' := fgT N Y T (rn N (pL Y) (sk N Y a))) (F := fgF N Y T (rn N (pL Y) (sk N Y a))) (room := (cl < 60)) ho ht hcl hs (Or.inr (Or.inr (Or.inr (Or.inr (Or.inr (Or.inr (Or.inl hw))))))) (fun d X rm w Q hrm hT hf hD h => K_clfg ho ht hw0 hw1 hw6 hw7 hw8 hw9 hw hrm hT hf hD h) ⟨fun hr q => ?_, fun q => ?_⟩ (fun hr => hr) (fun hr d X w Q x3 x4 hT hf hD h3 h4 h => R_gofg ht x1 x6 y7 y8 hw hT hf hD h3 h4 h) (fun hr hF => tb_fog ht (num_v (show 0 ≤ 16 by omega)).2)
    · rcases q with q | q | q | q | q
      · omega
      · exact x0 q.1
      · exact x9 q.1
      · exact x1 q.1
      · exact x6 q.1
    · have : cl ≠ 60 := fun e => q (Or.inl e)
      omega
  by_cases hw11 : wA N Y (sk N Y a) 11
  · have hw := hw11
    have x0 : ¬ wA N Y (sk N Y a) 0 := wA_x hw (by decide +kernel)
    have x9 : ¬ wA N Y (sk N Y a) 9 := wA_x hw (by decide +kernel)
    have x1 : ¬ wA N Y (sk N Y a) 1 := wA_x hw (by decide +kernel)
    have x6 : ¬ wA N Y (sk N Y a) 6 := wA_x hw (by decide +kernel)
    have y7 : ¬ wA N Y (sk N Y a) 7 := wA_x hw (by decide +kernel)
    have y8 : ¬ wA N Y (sk N Y a) 8 := wA_x hw (by decide +kernel)
    have y10 : ¬ wA N Y (sk N Y a) 10 := wA_x hw (by decide +kernel)
    refine clause_mk (A2 := owA N Y T (rn N (pL Y) (sk N Y a))) (T' := owT N Y T (rn N (pL Y) (sk N Y a))) (F := owF N Y T (rn N (pL Y) (sk N Y a))) (room := (cl < 60)) ho ht hcl hs (Or.inr (Or.inr (Or.inr (Or.inr (Or.inr (Or.inr (Or.inr hw))))))) (fun d X rm w Q hrm hT hf hD h => K_clow ho ht hw0 hw1 hw6 hw7 hw8 hw9 hw10 hw hrm hT hf hD h) ⟨fun hr q => ?_, fun q => ?_⟩ (fun hr => hr) (fun hr d X w Q x3 x4 hT hf hD h3 h4 h => R_goow ht x1 x6 y7 y8 y10 hw hT hf hD h3 h4 h) (fun hr hF => tb_owes ht (numH_v (orf_nn.mp hF).1).2 (numH_v (orf_nn.mp (orf_nn.mp hF).2).1).2)
    · rcases q with q | q | q | q | q
      · omega
      · exact x0 q.1
      · exact x9 q.1
      · exact x1 q.1
      · exact x6 q.1
    · have : cl ≠ 60 := fun e => q (Or.inl e)
      omega
  have hno : ¬ kno N Y (sk N Y a) := by
    rintro (q | q | q | q | q | q | q | q)
    · exact hw0 q
    · exact hw9 q
    · exact hw1 q
    · exact hw6 q
    · exact hw7 q
    · exact hw8 q
    · exact hw10 q
    · exact hw11 q
  refine Or.inl ⟨(1, sk N Y a), fun d X rm w R hrm hT hf hD h => ?_, fun d X b w Q hb hT hf hD h => ?_⟩
  · refine K_clno hno hT hf (fun u fu tu ffu => ?_)
    refine K_need (d := d + 5) (c := 59) (by decide) tu ffu (fun u2 a' f2 t2 _ ff2 => ?_)
    exact h u2 (aCo_T (fu.trans f2)) ff2 ⟨a', t2⟩ ⟨T, ht, hD.T ho (fu.trans f2)⟩
  · have r44 := R_44 (d := d) (cl := cl) (X := X) (Q := Q) hT hf
    rw [hb] at r44
    exact r44 hs (fun z => absurd z hno) (fun _ u fu ffu => h u (aRc_x fu) ffu)
theorem cT_of {o : Nat} {T : Tb} {β : Nat → Nat} {w u : q_Sm} (hD : cD o T w) (f : fr (fun i _ => i == o + 8) w u) (ho : ordered T β) (hb : holds (o + 8) (T 7 1) β u) : cT o T β u := by
  have hD := hD.g (u := u) (fun i j _ _ q _ => f.2 i j (by simp [q]))
  obtain ⟨a, b, ⟨c1, c2, c3, c4, c5⟩, e⟩ := hD
  exact ⟨a, b, ⟨c1, c2, c3, c4, c5, hb, ho⟩, e⟩
theorem aCo_8 {o : Nat} {w u : q_Sm} (h : fr (fun i _ => i == o + 8) w u) : fr (aCo o) w u := h.mono (fun i j q => by
  have : i = o + 8 := by simpa using q
  exact aCo_i (by omega) (by omega))
/-- the whole text: a fault, or a coast -/
theorem coast_out {o N : Nat} {Y : Nat → Nat} (ho : o = 4 ∨ o = 20) : ∀ j cl a T, cl + j = 60 → tb T → a ≤ N →
    (∃ y, (∀ d X (w : q_Sm) (Q : q_Sm → Prop), tC N Y a w → fC none w → cD o T w → (∀ u, fr (aCo o) w u → fC (some y) u → Q u) → s_Ex (d + 9) 0 mX2_read 6 [some (.ref o), some (.ref 2), some (.int (nI cl))] [] w (s_V Q) X) ∧
      (∀ d X (w : q_Sm) (Q : s_Po), tR N Y a w → fR none w → rD T w → (∀ u, fr aRc w u → fR (some y) u → s_Ex (d + 10) 0 mX12_coast 329 [some (.ref 79), none, none, none, none, none] [] u Q X) → s_Ex (d + 10) 0 mX12_coast 44 [some (.ref 79), none, some (.int (nI cl)), none, none, none] [] w Q X)) ∨
    (∃ T', tb T' ∧ (∀ d X (w : q_Sm) (Q : q_Sm → Prop), tC N Y a w → fC none w → cD o T w → (∀ u β, fr (aCo o) w u → fC none u → cT o T' β u → Q u) → s_Ex (d + 9) 0 mX2_read 6 [some (.ref o), some (.ref 2), some (.int (nI cl))] [] w (s_V Q) X) ∧
      (∀ d X (w : q_Sm) (Q : s_Po), tR N Y a w → fR none w → rD T w → (∀ u, fr aRc w u → fR none u → rD T' u → s_Ex (d + 10) 0 mX12_coast 329 [some (.ref 79), none, none, none, none, none] [] u Q X) → s_Ex (d + 10) 0 mX12_coast 44 [some (.ref 79), none, some (.int (nI cl)), none, none, none] [] w Q X)) := by
  -- the class once a fault stands
  have fin : ∀ (y : Nat × Nat) d X n (w : q_Sm) (Q : q_Sm → Prop), fC (some y) w → (∃ b, tC N Y b w) → (∃ T', tb T' ∧ cD o T' w) → (∀ u, fr (aCo o) w u → fC (some y) u → Q u) → s_Ex (d + 9) 0 mX2_read 6 [some (.ref o), some (.ref 2), some (.int (nI n))] [] w (s_V Q) X := by
    intro y d X n w Q hf hT hD h
    obtain ⟨b, hT⟩ := hT
    obtain ⟨T', ht, hD⟩ := hD
    have ord : ∀ u, fr aTx w u → fC (some y) u → cD o T' u → s_EvV (d + 8) 0 mX2_orderByTerm u [.ref o] (fun u4 => s_V Q none u4) X := by
      intro u fu ffu du
      refine K_order (d := d + 7) ho ht du (fun u2 β f2 _ _ => ?_)
      rw [s_Vn]
      exact h u2 ((aCo_T fu).trans (aCo_8 f2)) (ffu.g (fun i j q => f2.2 i j (by simp; omega)))
    apply xX2_read_6
    unfold vX2_read_6
    refine ⟨fun _ => ⟨ia_0 ho, ord w (fr.refl _ _) hf hD⟩, fun _ => K_goesOn (d := d + 6) hT hf (fun u _ _ _ z _ => by simp at z) (fun u fu tu ffu _ => ⟨fun _ => ⟨ia_0 ho, ord u fu ffu (hD.T ho fu)⟩, fun z => absurd rfl z⟩)⟩
  -- nothing more stands there
  have noMore : ∀ cl a T, cl ≤ 60 → tb T → a ≤ N → ¬ sk N Y a < N → (∀ d X (w : q_Sm) (Q : q_Sm → Prop), tC N Y a w → fC none w → cD o T w → (∀ u β, fr (aCo o) w u → fC none u → cT o T β u → Q u) → s_Ex (d + 9) 0 mX2_read 6 [some (.ref o), some (.ref 2), some (.int (nI cl))] [] w (s_V Q) X) ∧
      (∀ d X (w : q_Sm) (Q : s_Po), tR N Y a w → fR none w → rD T w → (∀ u, fr aRc w u → fR none u → rD T u → s_Ex (d + 10) 0 mX12_coast 329 [some (.ref 79), none, none, none, none, none] [] u Q X) → s_Ex (d + 10) 0 mX12_coast 44 [some (.ref 79), none, some (.int (nI cl)), none, none, none] [] w Q X) := by
    intro cl a T hcl ht ha hs
    refine ⟨fun d X w Q hT hf hD h => ?_, fun d X w Q hT hf hD h => ?_⟩
    · apply xX2_read_6
      unfold vX2_read_6
      rw [L_60, nI_ltI (by omega) (by omega)]
      refine ⟨fun z => absurd z (by omega), fun _ => K_goesOn (d := d + 6) hT hf (fun u fu tu ffu _ z => absurd z hs) (fun u fu tu ffu _ => ⟨fun _ => ⟨ia_0 ho, ?_⟩, fun z => absurd rfl z⟩)⟩
      have du := hD.T ho fu
      refine K_order (d := d + 7) ho ht du (fun u2 β f2 hb hh => ?_)
      rw [s_Vn]
      exact h u2 β ((aCo_T fu).trans (aCo_8 f2)) (ffu.g (fun i j q => f2.2 i j (by simp; omega))) (cT_of du f2 hb hh)
    · apply xX12_coast_44
      unfold vX12_coast_44
      refine R_fine hf (fun _ => ⟨fun z => absurd z (by decide), fun _ => ?_⟩) (fun z => absurd rfl z)
      exact R_isMore (d := d + 7) hT hf (fun u _ _ _ z => absurd z hs) (fun u fu tu ffu _ => ⟨fun _ => h u (aRc_x fu) ffu (hD.x fu), fun z => absurd rfl z⟩)
  -- a clause, once it is known that one stands there: how the class comes to it
  have kin : ∀ cl a d X (w : q_Sm) (Q : q_Sm → Prop), cl ≤ 60 → sk N Y a < N → tC N Y a w → fC none w → (∀ u rm, flg rm (cl < 60) → fr aTx w u → tC N Y (sk N Y a) u → fC none u → s_EvV (d + 8) 0 mX2_readClause u [.ref o, .ref 2, .int rm] (fun u10 => s_EvV (d + 8) 0 mX10_need u10 [.ref 2, .int 59] (fun u12 => s_Ex (d + 9) 0 mX2_read 6 [some (.ref o), some (.ref 2), some (.int (nI (cl + 1)))] [] u12 (s_V Q) X) X) X) → s_Ex (d + 9) 0 mX2_read 6 [some (.ref o), some (.ref 2), some (.int (nI cl))] [] w (s_V Q) X := by
    intro cl a d X w Q hcl hs hT hf h
    apply xX2_read_6
    unfold vX2_read_6
    rw [L_60, nI_ltI (by omega) (by omega), nI_leI (by omega) (by omega), nI_1 cl]
    refine ⟨fun z => absurd z (by omega), fun _ => K_goesOn (d := d + 6) hT hf (fun u fu tu ffu _ _ => ⟨fun z => absurd z (by decide), fun _ => ⟨fun z => ⟨ia_0 ho, h u 0 (Or.inr ⟨rfl, by omega⟩) fu tu ffu⟩, fun z => ⟨ia_0 ho, h u 1 (Or.inl ⟨rfl, by omega⟩) fu tu ffu⟩⟩⟩) (fun u _ _ _ z => absurd hs (z rfl))⟩
  intro j
  induction j with
  | zero =>
    intro cl a T hj ht ha
    have hss := sk_sk (Y := Y) ha
    by_cases hs : sk N Y a < N
    · rcases clause_of (Y := Y) (cl := cl) (a := sk N Y a) ho ht (by omega) (by rw [hss]; exact hs) with ⟨y, kc, rc⟩ | ⟨a', T', hlt, _⟩
      · refine Or.inl ⟨y, fun d X w Q hT hf hD h => kin cl a d X w Q (by omega) hs hT hf (fun u rm hrm fu tu ffu => ?_), fun d X w Q hT hf hD h => rc d X a w Q hss.symm hT hf hD h⟩
        exact kc d X rm u _ hrm tu ffu (hD.T ho fu) (fun u2 f2 ff2 t2 d2 => fin y d X _ u2 Q ff2 t2 d2 (fun u3 f3 ff3 => h u3 (((aCo_T fu).trans f2).trans f3) ff3))
      · omega
    · exact Or.inr ⟨T, ht, noMore cl a T (by omega) ht ha hs⟩
  | succ j ih =>
    intro cl a T hj ht ha
    have hss := sk_sk (Y := Y) ha
    by_cases hs : sk N Y a < N
    · rcases clause_of (Y := Y) (cl := cl) (a := sk N Y a) ho ht (by omega) (by rw [hss]; exact hs) with ⟨y, kc, rc⟩ | ⟨a', T', hlt, ht', kc, rc⟩
      · refine Or.inl ⟨y, fun d X w Q hT hf hD h => kin cl a d X w Q (by omega) hs hT hf (fun u rm hrm fu tu ffu => ?_), fun d X w Q hT hf hD h => rc d X a w Q hss.symm hT hf hD h⟩
        exact kc d X rm u _ hrm tu ffu (hD.T ho fu) (fun u2 f2 ff2 t2 d2 => fin y d X _ u2 Q ff2 t2 d2 (fun u3 f3 ff3 => h u3 (((aCo_T fu).trans f2).trans f3) ff3))
      · by_cases ha' : a' ≤ N
        · rcases ih (cl + 1) a' T' (by omega) ht' ha' with ⟨y, lk, lr⟩ | ⟨T2, ht2, lk, lr⟩
          · refine Or.inl ⟨y, fun d X w Q hT hf hD h => kin cl a d X w Q (by omega) hs hT hf (fun u rm hrm fu tu ffu => ?_), fun d X w Q hT hf hD h => rc d X a w Q hss.symm hT hf hD (fun u fu tu ffu du => lr d X u Q tu ffu du (fun u2 f2 ff2 => h u2 (fu.trans f2) ff2))⟩
            exact kc d X rm u _ hrm tu ffu (hD.T ho fu) (fun u2 f2 t2 ff2 d2 => lk d X u2 Q t2 ff2 d2 (fun u3 f3 ff3 => h u3 (((aCo_T fu).trans f2).trans f3) ff3))
          · refine Or.inr ⟨T2, ht2, fun d X w Q hT hf hD h => kin cl a d X w Q (by omega) hs hT hf (fun u rm hrm fu tu ffu => ?_), fun d X w Q hT hf hD h => rc d X a w Q hss.symm hT hf hD (fun u fu tu ffu du => lr d X u Q tu ffu du (fun u2 f2 ff2 d2 => h u2 (fu.trans f2) ff2 d2))⟩
            exact kc d X rm u _ hrm tu ffu (hD.T ho fu) (fun u2 f2 t2 ff2 d2 => lk d X u2 Q t2 ff2 d2 (fun u3 β f3 ff3 d3 => h u3 β (((aCo_T fu).trans f2).trans f3) ff3 d3))
        · refine Or.inl ⟨(1, 0), fun d X w Q hT hf hD h => kin cl a d X w Q (by omega) hs hT hf (fun u rm hrm fu tu ffu => ?_), fun d X w Q hT hf hD h => rc d X a w Q hss.symm hT hf hD (fun u fu tu ffu du => absurd tu.2.1 ha')⟩
          exact kc d X rm u _ hrm tu ffu (hD.T ho fu) (fun u2 f2 t2 ff2 d2 => absurd t2.2.1 ha')
    · exact Or.inr ⟨T, ht, noMore cl a T (by omega) ht ha hs⟩
