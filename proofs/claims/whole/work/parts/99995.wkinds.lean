/-! the steps of a work's text, kind by kind -/
theorem wk_0 : sLn 47 = sLn 21 ∧ ∀ i, i < sLn 47 → sCh 47 i = sCh 21 i := by decide +kernel
theorem wk_1 : sLn 48 = sLn 22 ∧ ∀ i, i < sLn 48 → sCh 48 i = sCh 22 i := by decide +kernel
theorem wk_2 : sLn 32 = sLn 23 ∧ ∀ i, i < sLn 32 → sCh 32 i = sCh 23 i := by decide +kernel
theorem wk_3 : sLn 49 = sLn 24 ∧ ∀ i, i < sLn 49 → sCh 49 i = sCh 24 i := by decide +kernel
theorem wk_4 : sLn 30 = sLn 25 ∧ ∀ i, i < sLn 30 → sCh 30 i = sCh 25 i := by decide +kernel
theorem wk_5 : sLn 50 = sLn 26 ∧ ∀ i, i < sLn 50 → sCh 50 i = sCh 26 i := by decide +kernel
theorem wt_pay {r N o a n : Nat} {T : Tb} {Y kd fs sc : Nat → Nat} (hr : r = 4 ∨ r = 20) (ht : tb T) (hN : N ≤ 150) (ho : o ≤ 6) (ha : a ≤ N) (h5 : 5 * n ≤ a) (hw : wA N Y (sk N Y a) 21) : outT r T N Y o a n kd fs sc := by
  have hsN := sk_le (Y := Y) ha
  have hsg := sk_ge (Y := Y) ha
  have hn := tb_nd ht
  have hn' := tb_nc ht
  have hrb := rn_b (N := N) (p := pL Y) hsN
  have hlen : rn N (pL Y) (sk N Y a) = sk N Y a + 3 := by
    have h1 := hw.1
    have h2 : sLn 21 = 3 := by decide
    omega
  refine leaf_of (k := 0) (x := (numH N Y 0 (T 7 1) (rn N (pL Y) (sk N Y a))).2.1) (y := (num N Y 1 99 (numH N Y 0 (T 7 1) (rn N (pL Y) (sk N Y a))).2.2).2.1) (A1 := (num N Y 1 99 (numH N Y 0 (T 7 1) (rn N (pL Y) (sk N Y a))).2.2).2.2) (F1 := (orf (numH N Y 0 (T 7 1) (rn N (pL Y) (sk N Y a))).1 (num N Y 1 99 (numH N Y 0 (T 7 1) (rn N (pL Y) (sk N Y a))).2.2).1)) hr hN ho ha h5 (fun z => absurd z (by decide)) (fun z => ?_) (fun d X w Q hT hf hc h => ?_) (fun d X w Q hT hf hc h => ?_)
  · obtain ⟨z1, z2⟩ := orf_nn.mp z
    have b1 := numH_ok hrb.2.1 z1
    have b2 := num_ok b1.2 z2
    exact ⟨by omega, b2.2, Or.inl ⟨rfl, (numH_v z1).2, (num_v (by decide)).2⟩⟩
  · apply eX9_readStep
    unfold vX9_readStep_0
    refine K_word (d := d + 10) hT hf (fun u1 f1 t1 ff1 s1 => ?_)
    refine K_was (d := d + 7) (r := 21) (by decide) hsN t1 s1 (fun _ => ⟨fun z => absurd z (by decide), fun _ => ?_⟩) (fun z => absurd hw z)
    refine ⟨ia_0 hr, ?_⟩
    rw [(hc.T hr f1).1.2]
    refine K_numH (d := d + 10) (lo := 0) (H := T 7 1) (by decide) (fun v hv => bd_c (by omega) v (by omega)) t1 ff1 (fun u2 f2 t2 ff2 _ => ?_)
    refine K_number (d := d + 10) (lo := 1) (hi := 99) (by decide) (by decide) t2 ff2 (fun u3 f3 t3 ff3 _ => ?_)
    simp only [orf_a, orf_none] at ff3
    exact h u3 ((f1.trans f2).trans f3) t3 ff3
  · apply eX12_readStep
    unfold vX12_readStep_0
    refine R_word (d := d + 10) hT hf (fun u1 f1 t1 ff1 => ?_)
    refine R_isW (d := d + 7) (Y := Y) (c := 21) hsN (by decide) (by decide) wk_0 (fun x0 hx0 => ?_)
    rw [hx0]
    refine ⟨fun z => absurd hw z, fun _ => ?_⟩
    refine R_pass (d := d + 10) (N - sk N Y a) (sk N Y a) u1 _ (by omega) t1 ff1 (fun u2 f2 t2 ff2 => ?_)
    rw [((hc.x f1).x f2).1.2]
    refine S_numH (d := d + 10) (lo := 0) (H := T 7 1) (by decide) (by omega) (bd_c (by omega)) (tRf.of t2) ff2 (fun u3 v3 f3 t3 ff3 hv3 => ?_)
    refine S_number (d := d + 10) (lo := 1) (hi := 99) (by decide) (by decide) t3 ff3 (fun u4 v4 f4 t4 ff4 hv4 => ?_)
    simp only [orf_a, orf_none] at t4 ff4 hv4 hv3
    exact h u4 v3 v4 (((f1.trans f2).trans f3).trans f4) t4 ff4 (fun z => ⟨hv3 (orf_nn.mp z).1, hv4 z⟩)
theorem wt_end {r N o a n : Nat} {T : Tb} {Y kd fs sc : Nat → Nat} (hr : r = 4 ∨ r = 20) (ht : tb T) (hN : N ≤ 150) (ho : o ≤ 6) (ha : a ≤ N) (h5 : 5 * n ≤ a) (hn0 : ¬ wA N Y (sk N Y a) 21) (hw : wA N Y (sk N Y a) 22) : outT r T N Y o a n kd fs sc := by
  have hsN := sk_le (Y := Y) ha
  have hsg := sk_ge (Y := Y) ha
  have hn := tb_nd ht
  have hn' := tb_nc ht
  have hrb := rn_b (N := N) (p := pL Y) hsN
  have hlen : rn N (pL Y) (sk N Y a) = sk N Y a + 3 := by
    have h1 := hw.1
    have h2 : sLn 22 = 3 := by decide
    omega
  refine leaf_of (k := 1) (x := (numH N Y 0 (T 7 1) (rn N (pL Y) (sk N Y a))).2.1) (y := 0) (A1 := (numH N Y 0 (T 7 1) (rn N (pL Y) (sk N Y a))).2.2) (F1 := (numH N Y 0 (T 7 1) (rn N (pL Y) (sk N Y a))).1) hr hN ho ha h5 (fun z => absurd z (by decide)) (fun z => ?_) (fun d X w Q hT hf hc h => ?_) (fun d X w Q hT hf hc h => ?_)
  · have b1 := numH_ok hrb.2.1 z
    exact ⟨by omega, b1.2, Or.inr (Or.inl ⟨rfl, (numH_v z).2⟩)⟩
  · apply eX9_readStep
    unfold vX9_readStep_0
    refine K_word (d := d + 10) hT hf (fun u1 f1 t1 ff1 s1 => ?_)
    refine K_was (d := d + 7) (r := 21) (by decide) hsN t1 s1 (fun z => absurd z hn0) (fun _ => ⟨fun _ => ?_, fun z => absurd rfl z⟩)
    refine K_was (d := d + 7) (r := 22) (by decide) hsN t1 s1 (fun _ => ⟨fun z => absurd z (by decide), fun _ => ?_⟩) (fun z => absurd hw z)
    refine ⟨ia_0 hr, ?_⟩
    rw [(hc.T hr f1).1.2]
    refine K_numH (d := d + 10) (lo := 0) (H := T 7 1) (by decide) (fun v hv => bd_c (by omega) v (by omega)) t1 ff1 (fun u2 f2 t2 ff2 _ => ?_)
    simp only [orf_none] at ff2
    exact h u2 (f1.trans f2) t2 ff2
  · apply eX12_readStep
    unfold vX12_readStep_0
    refine R_word (d := d + 10) hT hf (fun u1 f1 t1 ff1 => ?_)
    refine R_isW (d := d + 7) (Y := Y) (c := 21) hsN (by decide) (by decide) wk_0 (fun x0 hx0 => ?_)
    rw [hx0]
    refine ⟨fun _ => ?_, fun z => absurd (Classical.not_not.mp z) hn0⟩
    refine R_isW (d := d + 7) (Y := Y) (c := 22) hsN (by decide) (by decide) wk_1 (fun x1 hx1 => ?_)
    rw [hx1]
    refine ⟨fun z => absurd hw z, fun _ => ?_⟩
    refine R_pass (d := d + 10) (N - sk N Y a) (sk N Y a) u1 _ (by omega) t1 ff1 (fun u2 f2 t2 ff2 => ?_)
    rw [((hc.x f1).x f2).1.2]
    refine S_numH (d := d + 10) (lo := 0) (H := T 7 1) (by decide) (by omega) (bd_c (by omega)) (tRf.of t2) ff2 (fun u3 v3 f3 t3 ff3 hv3 => ?_)
    simp only [orf_none] at t3 ff3 hv3
    exact h u3 v3 0 ((f1.trans f2).trans f3) t3 ff3 (fun z => ⟨hv3 z, rfl⟩)
theorem wt_lamp {r N o a n : Nat} {T : Tb} {Y kd fs sc : Nat → Nat} (hr : r = 4 ∨ r = 20) (ht : tb T) (hN : N ≤ 150) (ho : o ≤ 6) (ha : a ≤ N) (h5 : 5 * n ≤ a) (hn0 : ¬ wA N Y (sk N Y a) 21) (hn1 : ¬ wA N Y (sk N Y a) 22) (hw : wA N Y (sk N Y a) 23) : outT r T N Y o a n kd fs sc := by
  have hsN := sk_le (Y := Y) ha
  have hsg := sk_ge (Y := Y) ha
  have hn := tb_nd ht
  have hn' := tb_nc ht
  have hrb := rn_b (N := N) (p := pL Y) hsN
  have hlen : rn N (pL Y) (sk N Y a) = sk N Y a + 4 := by
    have h1 := hw.1
    have h2 : sLn 23 = 4 := by decide
    omega
  refine leaf_of (k := 2) (x := (col N Y (rn N (pL Y) (sk N Y a))).2.1) (y := (num N Y 1 99 (col N Y (rn N (pL Y) (sk N Y a))).2.2).2.1) (A1 := (num N Y 1 99 (col N Y (rn N (pL Y) (sk N Y a))).2.2).2.2) (F1 := (orf (col N Y (rn N (pL Y) (sk N Y a))).1 (num N Y 1 99 (col N Y (rn N (pL Y) (sk N Y a))).2.2).1)) hr hN ho ha h5 (fun z => absurd z (by decide)) (fun z => ?_) (fun d X w Q hT hf hc h => ?_) (fun d X w Q hT hf hc h => ?_)
  · obtain ⟨z1, z2⟩ := orf_nn.mp z
    have b1 := col_pl (N := N) (Y := Y) hrb.2.1
    have b2 := num_ok b1.2 z2
    exact ⟨by omega, b2.2, Or.inr (Or.inr (Or.inl ⟨rfl, col_v, (num_v (by decide)).2⟩))⟩
  · apply eX9_readStep
    unfold vX9_readStep_0
    refine K_word (d := d + 10) hT hf (fun u1 f1 t1 ff1 s1 => ?_)
    refine K_was (d := d + 7) (r := 21) (by decide) hsN t1 s1 (fun z => absurd z hn0) (fun _ => ⟨fun _ => ?_, fun z => absurd rfl z⟩)
    refine K_was (d := d + 7) (r := 22) (by decide) hsN t1 s1 (fun z => absurd z hn1) (fun _ => ⟨fun _ => ?_, fun z => absurd rfl z⟩)
    refine K_was (d := d + 7) (r := 23) (by decide) hsN t1 s1 (fun _ => ⟨fun z => absurd z (by decide), fun _ => ?_⟩) (fun z => absurd hw z)
    refine K_colour (d := d + 6) t1 ff1 (fun u2 f2 t2 ff2 _ => ?_)
    refine K_number (d := d + 10) (lo := 1) (hi := 99) (by decide) (by decide) t2 ff2 (fun u3 f3 t3 ff3 _ => ?_)
    simp only [orf_a, orf_none] at ff3
    exact h u3 ((f1.trans f2).trans f3) t3 ff3
  · apply eX12_readStep
    unfold vX12_readStep_0
    refine R_word (d := d + 10) hT hf (fun u1 f1 t1 ff1 => ?_)
    refine R_isW (d := d + 7) (Y := Y) (c := 21) hsN (by decide) (by decide) wk_0 (fun x0 hx0 => ?_)
    rw [hx0]
    refine ⟨fun _ => ?_, fun z => absurd (Classical.not_not.mp z) hn0⟩
    refine R_isW (d := d + 7) (Y := Y) (c := 22) hsN (by decide) (by decide) wk_1 (fun x1 hx1 => ?_)
    rw [hx1]
    refine ⟨fun _ => ?_, fun z => absurd (Classical.not_not.mp z) hn1⟩
    refine R_isW (d := d + 7) (Y := Y) (c := 23) hsN (by decide) (by decide) wk_2 (fun x2 hx2 => ?_)
    rw [hx2]
    refine ⟨fun z => absurd hw z, fun _ => ?_⟩
    refine R_pass (d := d + 10) (N - sk N Y a) (sk N Y a) u1 _ (by omega) t1 ff1 (fun u2 f2 t2 ff2 => ?_)
    refine S_colour (d := d + 5) (tRf.of t2) ff2 (fun u3 v3 f3 t3 ff3 hv3 => ?_)
    refine S_number (d := d + 10) (lo := 1) (hi := 99) (by decide) (by decide) t3 ff3 (fun u4 v4 f4 t4 ff4 hv4 => ?_)
    simp only [orf_a, orf_none] at t4 ff4 hv4 hv3
    exact h u4 v3 v4 (((f1.trans f2).trans f3).trans f4) t4 ff4 (fun z => ⟨hv3 (orf_nn.mp z).1, hv4 z⟩)
theorem wt_hand {r N o a n : Nat} {T : Tb} {Y kd fs sc : Nat → Nat} (hr : r = 4 ∨ r = 20) (ht : tb T) (hN : N ≤ 150) (ho : o ≤ 6) (ha : a ≤ N) (h5 : 5 * n ≤ a) (hn0 : ¬ wA N Y (sk N Y a) 21) (hn1 : ¬ wA N Y (sk N Y a) 22) (hn2 : ¬ wA N Y (sk N Y a) 23) (hw : wA N Y (sk N Y a) 24) : outT r T N Y o a n kd fs sc := by
  have hsN := sk_le (Y := Y) ha
  have hsg := sk_ge (Y := Y) ha
  have hn := tb_nd ht
  have hn' := tb_nc ht
  have hrb := rn_b (N := N) (p := pL Y) hsN
  have hlen : rn N (pL Y) (sk N Y a) = sk N Y a + 4 := by
    have h1 := hw.1
    have h2 : sLn 24 = 4 := by decide
    omega
  refine leaf_of (k := 3) (x := (numH N Y 0 (T 7 1) (rn N (pL Y) (sk N Y a))).2.1) (y := (numH N Y 0 (T 7 0) (numH N Y 0 (T 7 1) (rn N (pL Y) (sk N Y a))).2.2).2.1) (A1 := (numH N Y 0 (T 7 0) (numH N Y 0 (T 7 1) (rn N (pL Y) (sk N Y a))).2.2).2.2) (F1 := (orf (numH N Y 0 (T 7 1) (rn N (pL Y) (sk N Y a))).1 (numH N Y 0 (T 7 0) (numH N Y 0 (T 7 1) (rn N (pL Y) (sk N Y a))).2.2).1)) hr hN ho ha h5 (fun z => absurd z (by decide)) (fun z => ?_) (fun d X w Q hT hf hc h => ?_) (fun d X w Q hT hf hc h => ?_)
  · obtain ⟨z1, z2⟩ := orf_nn.mp z
    have b1 := numH_ok hrb.2.1 z1
    have b2 := numH_ok b1.2 z2
    exact ⟨by omega, b2.2, Or.inr (Or.inr (Or.inr (Or.inl ⟨rfl, (numH_v z1).2, (numH_v z2).2⟩)))⟩
  · apply eX9_readStep
    unfold vX9_readStep_0
    refine K_word (d := d + 10) hT hf (fun u1 f1 t1 ff1 s1 => ?_)
    refine K_was (d := d + 7) (r := 21) (by decide) hsN t1 s1 (fun z => absurd z hn0) (fun _ => ⟨fun _ => ?_, fun z => absurd rfl z⟩)
    refine K_was (d := d + 7) (r := 22) (by decide) hsN t1 s1 (fun z => absurd z hn1) (fun _ => ⟨fun _ => ?_, fun z => absurd rfl z⟩)
    refine K_was (d := d + 7) (r := 23) (by decide) hsN t1 s1 (fun z => absurd z hn2) (fun _ => ⟨fun _ => ?_, fun z => absurd rfl z⟩)
    refine K_was (d := d + 7) (r := 24) (by decide) hsN t1 s1 (fun _ => ⟨fun z => absurd z (by decide), fun _ => ?_⟩) (fun z => absurd hw z)
    refine ⟨ia_0 hr, ?_⟩
    rw [(hc.T hr f1).1.2]
    refine K_numH (d := d + 10) (lo := 0) (H := T 7 1) (by decide) (fun v hv => bd_c (by omega) v (by omega)) t1 ff1 (fun u2 f2 t2 ff2 _ => ?_)
    refine ⟨ia_0 hr, ?_⟩
    rw [(hc.T hr (f1.trans f2)).1.1]
    refine K_numH (d := d + 10) (lo := 0) (H := T 7 0) (by decide) (fun v hv => bd_c (by omega) v (by omega)) t2 ff2 (fun u3 f3 t3 ff3 _ => ?_)
    simp only [orf_a, orf_none] at ff3
    exact h u3 ((f1.trans f2).trans f3) t3 ff3
  · apply eX12_readStep
    unfold vX12_readStep_0
    refine R_word (d := d + 10) hT hf (fun u1 f1 t1 ff1 => ?_)
    refine R_isW (d := d + 7) (Y := Y) (c := 21) hsN (by decide) (by decide) wk_0 (fun x0 hx0 => ?_)
    rw [hx0]
    refine ⟨fun _ => ?_, fun z => absurd (Classical.not_not.mp z) hn0⟩
    refine R_isW (d := d + 7) (Y := Y) (c := 22) hsN (by decide) (by decide) wk_1 (fun x1 hx1 => ?_)
    rw [hx1]
    refine ⟨fun _ => ?_, fun z => absurd (Classical.not_not.mp z) hn1⟩
    refine R_isW (d := d + 7) (Y := Y) (c := 23) hsN (by decide) (by decide) wk_2 (fun x2 hx2 => ?_)
    rw [hx2]
    refine ⟨fun _ => ?_, fun z => absurd (Classical.not_not.mp z) hn2⟩
    refine R_isW (d := d + 7) (Y := Y) (c := 24) hsN (by decide) (by decide) wk_3 (fun x3 hx3 => ?_)
    rw [hx3]
    refine ⟨fun z => absurd hw z, fun _ => ?_⟩
    refine R_pass (d := d + 10) (N - sk N Y a) (sk N Y a) u1 _ (by omega) t1 ff1 (fun u2 f2 t2 ff2 => ?_)
    rw [((hc.x f1).x f2).1.2]
    refine S_numH (d := d + 10) (lo := 0) (H := T 7 1) (by decide) (by omega) (bd_c (by omega)) (tRf.of t2) ff2 (fun u3 v3 f3 t3 ff3 hv3 => ?_)
    rw [(((hc.x f1).x f2).x f3).1.1]
    refine S_numH (d := d + 10) (lo := 0) (H := T 7 0) (by decide) (by omega) (bd_c (by omega)) t3 ff3 (fun u4 v4 f4 t4 ff4 hv4 => ?_)
    simp only [orf_a, orf_none] at t4 ff4 hv4 hv3
    exact h u4 v3 v4 (((f1.trans f2).trans f3).trans f4) t4 ff4 (fun z => ⟨hv3 (orf_nn.mp z).1, hv4 z⟩)
theorem wt_dusk {r N o a n : Nat} {T : Tb} {Y kd fs sc : Nat → Nat} (hr : r = 4 ∨ r = 20) (ht : tb T) (hN : N ≤ 150) (ho : o ≤ 6) (ha : a ≤ N) (h5 : 5 * n ≤ a) (hn0 : ¬ wA N Y (sk N Y a) 21) (hn1 : ¬ wA N Y (sk N Y a) 22) (hn2 : ¬ wA N Y (sk N Y a) 23) (hn3 : ¬ wA N Y (sk N Y a) 24) (hw : wA N Y (sk N Y a) 25) : outT r T N Y o a n kd fs sc := by
  have hsN := sk_le (Y := Y) ha
  have hsg := sk_ge (Y := Y) ha
  have hn := tb_nd ht
  have hn' := tb_nc ht
  have hrb := rn_b (N := N) (p := pL Y) hsN
  have hlen : rn N (pL Y) (sk N Y a) = sk N Y a + 4 := by
    have h1 := hw.1
    have h2 : sLn 25 = 4 := by decide
    omega
  refine leaf_of (k := 4) (x := 0) (y := 0) (A1 := (rn N (pL Y) (sk N Y a))) (F1 := none) hr hN ho ha h5 (fun z => absurd z (by decide)) (fun z => ?_) (fun d X w Q hT hf hc h => ?_) (fun d X w Q hT hf hc h => ?_)
  · exact ⟨by omega, hrb.2.1, Or.inr (Or.inr (Or.inr (Or.inr rfl)))⟩
  · apply eX9_readStep
    unfold vX9_readStep_0
    refine K_word (d := d + 10) hT hf (fun u1 f1 t1 ff1 s1 => ?_)
    refine K_was (d := d + 7) (r := 21) (by decide) hsN t1 s1 (fun z => absurd z hn0) (fun _ => ⟨fun _ => ?_, fun z => absurd rfl z⟩)
    refine K_was (d := d + 7) (r := 22) (by decide) hsN t1 s1 (fun z => absurd z hn1) (fun _ => ⟨fun _ => ?_, fun z => absurd rfl z⟩)
    refine K_was (d := d + 7) (r := 23) (by decide) hsN t1 s1 (fun z => absurd z hn2) (fun _ => ⟨fun _ => ?_, fun z => absurd rfl z⟩)
    refine K_was (d := d + 7) (r := 24) (by decide) hsN t1 s1 (fun z => absurd z hn3) (fun _ => ⟨fun _ => ?_, fun z => absurd rfl z⟩)
    refine K_was (d := d + 7) (r := 25) (by decide) hsN t1 s1 (fun _ => ⟨fun z => absurd z (by decide), fun _ => ?_⟩) (fun z => absurd hw z)
    exact h u1 f1 t1 ff1
  · apply eX12_readStep
    unfold vX12_readStep_0
    refine R_word (d := d + 10) hT hf (fun u1 f1 t1 ff1 => ?_)
    refine R_isW (d := d + 7) (Y := Y) (c := 21) hsN (by decide) (by decide) wk_0 (fun x0 hx0 => ?_)
    rw [hx0]
    refine ⟨fun _ => ?_, fun z => absurd (Classical.not_not.mp z) hn0⟩
    refine R_isW (d := d + 7) (Y := Y) (c := 22) hsN (by decide) (by decide) wk_1 (fun x1 hx1 => ?_)
    rw [hx1]
    refine ⟨fun _ => ?_, fun z => absurd (Classical.not_not.mp z) hn1⟩
    refine R_isW (d := d + 7) (Y := Y) (c := 23) hsN (by decide) (by decide) wk_2 (fun x2 hx2 => ?_)
    rw [hx2]
    refine ⟨fun _ => ?_, fun z => absurd (Classical.not_not.mp z) hn2⟩
    refine R_isW (d := d + 7) (Y := Y) (c := 24) hsN (by decide) (by decide) wk_3 (fun x3 hx3 => ?_)
    rw [hx3]
    refine ⟨fun _ => ?_, fun z => absurd (Classical.not_not.mp z) hn3⟩
    refine R_isW (d := d + 7) (Y := Y) (c := 25) hsN (by decide) (by decide) wk_4 (fun x4 hx4 => ?_)
    rw [hx4]
    refine ⟨fun z => absurd hw z, fun _ => ?_⟩
    refine R_pass (d := d + 10) (N - sk N Y a) (sk N Y a) u1 _ (by omega) t1 ff1 (fun u2 f2 t2 ff2 => ?_)
    exact h u2 0 0 (f1.trans f2) (tRf.of t2) ff2 (fun z => ⟨rfl, rfl⟩)
theorem wt_none {r N o a n : Nat} {T : Tb} {Y kd fs sc : Nat → Nat} (hr : r = 4 ∨ r = 20) (ht : tb T) (hN : N ≤ 150) (ho : o ≤ 6) (ha : a ≤ N) (h5 : 5 * n ≤ a) (hn0 : ¬ wA N Y (sk N Y a) 21) (hn1 : ¬ wA N Y (sk N Y a) 22) (hn2 : ¬ wA N Y (sk N Y a) 23) (hn3 : ¬ wA N Y (sk N Y a) 24) (hn4 : ¬ wA N Y (sk N Y a) 25) (hn5 : ¬ wA N Y (sk N Y a) 26) : outT r T N Y o a n kd fs sc := by
  have hsN := sk_le (Y := Y) ha
  have hD : ∀ D, DT o ≤ D → ∃ d, D = d + 13 := fun D h => ⟨D - 13, by unfold DT at h; omega⟩
  refine Or.inl ⟨(1, sk N Y a), fun D X hd w Q hT hf hc h => ?_, fun D X hd w Q hT hf h7 hc h => ?_⟩
  · obtain ⟨d, rfl⟩ := hD D hd
    apply eX9_readStep
    unfold vX9_readStep_0
    refine K_word (d := d + 10) hT hf (fun u1 f1 t1 ff1 s1 => ?_)
    refine K_was (d := d + 7) (r := 21) (by decide) hsN t1 s1 (fun z => absurd z hn0) (fun _ => ⟨fun _ => ?_, fun z => absurd rfl z⟩)
    refine K_was (d := d + 7) (r := 22) (by decide) hsN t1 s1 (fun z => absurd z hn1) (fun _ => ⟨fun _ => ?_, fun z => absurd rfl z⟩)
    refine K_was (d := d + 7) (r := 23) (by decide) hsN t1 s1 (fun z => absurd z hn2) (fun _ => ⟨fun _ => ?_, fun z => absurd rfl z⟩)
    refine K_was (d := d + 7) (r := 24) (by decide) hsN t1 s1 (fun z => absurd z hn3) (fun _ => ⟨fun _ => ?_, fun z => absurd rfl z⟩)
    refine K_was (d := d + 7) (r := 25) (by decide) hsN t1 s1 (fun z => absurd z hn4) (fun _ => ⟨fun _ => ?_, fun z => absurd rfl z⟩)
    refine K_was (d := d + 7) (r := 26) (by decide) hsN t1 s1 (fun z => absurd z hn5) (fun _ => ⟨fun _ => ?_, fun z => absurd rfl z⟩)
    refine K_start ?_
    rw [s1]
    refine K_blame (k := 1) (d := d + 11) ff1 (by decide) (by decide) (by omega) (fun u2 f2 g2 _ ff2 => ?_)
    rw [s_Vn]
    refine K_needF (d := d + 10) (c := 59) (y := (1, sk N Y a)) (by decide) ⟨ff2, _, t1.mv f2 (g2.trans t1.2.2.2.1) t1.2.1⟩ (fun u3 f3 b3 => ?_)
    exact h u3 ((aWk_T (f1.trans f2)).trans f3) b3
  · obtain ⟨d, rfl⟩ := hD D hd
    apply eX12_readStep
    unfold vX12_readStep_0
    refine R_word (d := d + 10) hT hf (fun u1 f1 t1 ff1 => ?_)
    refine R_isW (d := d + 7) (Y := Y) (c := 21) hsN (by decide) (by decide) wk_0 (fun x0 hx0 => ?_)
    rw [hx0]
    refine ⟨fun _ => ?_, fun z => absurd (Classical.not_not.mp z) hn0⟩
    refine R_isW (d := d + 7) (Y := Y) (c := 22) hsN (by decide) (by decide) wk_1 (fun x1 hx1 => ?_)
    rw [hx1]
    refine ⟨fun _ => ?_, fun z => absurd (Classical.not_not.mp z) hn1⟩
    refine R_isW (d := d + 7) (Y := Y) (c := 23) hsN (by decide) (by decide) wk_2 (fun x2 hx2 => ?_)
    rw [hx2]
    refine ⟨fun _ => ?_, fun z => absurd (Classical.not_not.mp z) hn2⟩
    refine R_isW (d := d + 7) (Y := Y) (c := 24) hsN (by decide) (by decide) wk_3 (fun x3 hx3 => ?_)
    rw [hx3]
    refine ⟨fun _ => ?_, fun z => absurd (Classical.not_not.mp z) hn3⟩
    refine R_isW (d := d + 7) (Y := Y) (c := 25) hsN (by decide) (by decide) wk_4 (fun x4 hx4 => ?_)
    rw [hx4]
    refine ⟨fun _ => ?_, fun z => absurd (Classical.not_not.mp z) hn4⟩
    refine R_isW (d := d + 7) (Y := Y) (c := 26) hsN (by decide) (by decide) wk_5 (fun x5 hx5 => ?_)
    rw [hx5]
    refine ⟨fun _ => ?_, fun z => absurd (Classical.not_not.mp z) hn5⟩
    rw [t1.2.2.2.1]
    refine R_wrong (k := 1) (d := d + 11) ff1 (by decide) (by decide) (by omega) (fun u2 f2 g2 ff2 => ?_)
    have ff2 : fR (some (1, sk N Y a)) u2 := ff2
    refine R_signB (d := d + 10) ff2 ?_
    rw [s_Vn]
    exact h u2 (aRk_x (f1.trans f2)) ff2
