/-! a text and a place in it -/
def rnA (N : Nat) (p : Nat → Bool) : Nat → Nat → Nat
  | 0, a => a
  | j + 1, a => if p a = true then rnA N p j (a + 1) else a
def rn (N : Nat) (p : Nat → Bool) (a : Nat) : Nat := rnA N p (N - a) a
theorem rn_e {N : Nat} {p : Nat → Bool} {a : Nat} (h : N ≤ a) : rn N p a = a := by
  unfold rn
  rw [show N - a = 0 by omega]
  rfl
theorem rn_y {N : Nat} {p : Nat → Bool} {a : Nat} (h : a < N) (hp : p a = true) : rn N p a = rn N p (a + 1) := by
  unfold rn
  rw [show N - a = (N - (a + 1)) + 1 by omega, rnA, if_pos hp]
theorem rn_x {N : Nat} {p : Nat → Bool} {a : Nat} (h : a < N) (hp : p a = false) : rn N p a = a := by
  unfold rn
  rw [show N - a = (N - (a + 1)) + 1 by omega, rnA, if_neg (by rw [hp]; decide)]
theorem rnA_b {N : Nat} {p : Nat → Bool} : ∀ j a, a ≤ rnA N p j a ∧ rnA N p j a ≤ a + j ∧ (∀ i, a ≤ i → i < rnA N p j a → p i = true) ∧ (rnA N p j a < a + j → p (rnA N p j a) = false) := by
  intro j
  induction j with
  | zero => intro a; exact ⟨Nat.le_refl _, Nat.le_refl _, fun i h1 h2 => by have h2 : i < a := h2; omega, fun h => by have h : a < a + 0 := h; omega⟩
  | succ j ih =>
    intro a
    unfold rnA
    by_cases q : p a = true
    · rw [if_pos q]
      obtain ⟨h1, h2, h3, h4⟩ := ih (a + 1)
      refine ⟨by omega, by omega, fun i h5 h6 => ?_, fun h => h4 (by omega)⟩
      by_cases e : i = a
      · rw [e]; exact q
      · exact h3 i (by omega) h6
    · rw [if_neg q]
      exact ⟨Nat.le_refl _, by omega, fun i h1 h2 => by omega, fun _ => by cases h : p a with
        | false => rfl
        | true => exact absurd h q⟩
theorem rn_b {N : Nat} {p : Nat → Bool} {a : Nat} (ha : a ≤ N) : a ≤ rn N p a ∧ rn N p a ≤ N ∧ (∀ i, a ≤ i → i < rn N p a → p i = true) ∧ (rn N p a < N → p (rn N p a) = false) := by
  obtain ⟨h1, h2, h3, h4⟩ := rnA_b (N := N) (p := p) (N - a) a
  exact ⟨h1, by unfold rn; omega, h3, fun h => h4 (by unfold rn at h; omega)⟩
def pB (Y : Nat → Nat) (i : Nat) : Bool := decide (Y i = 32)
def pD (Y : Nat → Nat) (i : Nat) : Bool := decide (48 ≤ Y i ∧ Y i ≤ 57)
def pL (Y : Nat → Nat) (i : Nat) : Bool := decide (97 ≤ Y i ∧ Y i ≤ 122)
def sk (N : Nat) (Y : Nat → Nat) (a : Nat) : Nat := rn N (pB Y) a
theorem sk_le {N : Nat} {Y : Nat → Nat} {a : Nat} (h : a ≤ N) : sk N Y a ≤ N := (rn_b h).2.1
theorem sk_ge {N : Nat} {Y : Nat → Nat} {a : Nat} (h : a ≤ N) : a ≤ sk N Y a := (rn_b h).1
theorem sk_sk {N : Nat} {Y : Nat → Nat} {a : Nat} (h : a ≤ N) : sk N Y (sk N Y a) = sk N Y a := by
  by_cases q : sk N Y a < N
  · exact rn_x q ((rn_b h).2.2.2 q)
  · exact rn_e (by omega)
/-- numbers: the class stops at 9999, the reference goes on and then stands still -/
def vlA (Y : Nat → Nat) : Nat → Nat → Nat → Nat
  | 0, _, v => v
  | j + 1, a, v => vlA Y j (a + 1) (min 9999 (v * 10 + Y a - 48))
def vrA (Y : Nat → Nat) : Nat → Nat → Nat → Nat
  | 0, _, v => v
  | j + 1, a, v => vrA Y j (a + 1) (if 9999 < v then 10000 else 10 * v + Y a - 48)
theorem vl_vr {Y : Nat → Nat} : ∀ j a v v', (∀ i, a ≤ i → i < a + j → 48 ≤ Y i) → (v = v' ∨ (v = 9999 ∧ 9999 ≤ v')) → (vlA Y j a v = vrA Y j a v' ∨ (vlA Y j a v = 9999 ∧ 9999 ≤ vrA Y j a v')) := by
  intro j
  induction j with
  | zero => intro a v v' _ h; exact h
  | succ j ih =>
    intro a v v' hY h
    unfold vlA vrA
    refine ih (a + 1) _ _ (fun i h1 h2 => hY i (by omega) (by omega)) ?_
    have := hY a (by omega) (by omega)
    split
    · right
      omega
    · rcases h with h | h
      · subst h
        omega
      · right
        omega
def vlD (N : Nat) (Y : Nat → Nat) (s : Nat) : Nat := vlA Y (rn N (pD Y) s - s) s 0
/-- fault, value, place -/
def num (N : Nat) (Y : Nat → Nat) (lo hi a : Nat) : Option (Nat × Nat) × Nat × Nat :=
  if sk N Y a < N ∧ pD Y (sk N Y a) = true then
    (if lo ≤ vlD N Y (sk N Y a) ∧ vlD N Y (sk N Y a) ≤ hi then (none, vlD N Y (sk N Y a), rn N (pD Y) (sk N Y a)) else (some (2, sk N Y a), lo, rn N (pD Y) (sk N Y a)))
  else (some (1, sk N Y a), lo, sk N Y a)
def orf (x y : Option (Nat × Nat)) : Option (Nat × Nat) := match x with
  | some v => some v
  | none => y
/-- the class's reader -/
def tC (N : Nat) (Y : Nat → Nat) (a : Nat) (w : q_Sm) : Prop := N ≤ 600 ∧ a ≤ N ∧ w.1 2 2 = nI N ∧ w.1 2 3 = nI a ∧ ∀ k, k < N → Y k < 256 ∧ w.1 3 k = sx (Y k)
def fC (f : Option (Nat × Nat)) (w : q_Sm) : Prop := match f with
  | none => w.1 2 5 = nI 0 ∧ w.1 2 6 = oI none
  | some (k, p) => w.1 2 5 = nI k ∧ w.1 2 6 = nI p ∧ 0 < k ∧ k < 4 ∧ p ≤ 600
def aTx (i j : Nat) : Bool := i == 2 && (j == 3 || j == 4 || j == 5 || j == 6)
theorem aTx_3 : aTx 2 3 = true := rfl
theorem tC.mv {N : Nat} {Y : Nat → Nat} {a a' : Nat} {w u : q_Sm} (h : tC N Y a w) (hf : fr aTx w u) (h3 : u.1 2 3 = nI a') (ha : a' ≤ N) : tC N Y a' u := by
  refine ⟨h.1, ha, by rw [hf.2 2 2 rfl]; exact h.2.2.1, h3, fun k hk => ?_⟩
  rw [hf.2 3 k (by simp [aTx])]
  exact h.2.2.2.2 k hk
theorem fC.mv {f : Option (Nat × Nat)} {w u : q_Sm} (h : fC f w) (h5 : u.1 2 5 = w.1 2 5) (h6 : u.1 2 6 = w.1 2 6) : fC f u := by
  unfold fC at h ⊢
  rw [h5, h6]
  exact h
theorem sx_32 : ∀ y, y < 256 → (sx y = 32 ↔ y = 32) := by decide +kernel
theorem sx_255 : ∀ y, y < 256 → sx y &&& 255 = nI y := by decide +kernel
theorem K_skip {d N : Nat} {Y : Nat → Nat} {X : s_Xo} {f : Option (Nat × Nat)} : ∀ j a (w : q_Sm) (Q : q_Sm → Prop), a + j = N → tC N Y a w → fC f w → (∀ u, fr aTx w u → tC N Y (sk N Y a) u → fC f u → u.1 2 4 = w.1 2 4 → Q u) → s_Ex (d + 1) 0 mX10_skipBlanks 0 [some (.ref 2)] [] w (s_V Q) X := by
  intro j
  induction j with
  | zero =>
    intro a w Q hj hT hf h
    have : sk N Y a = a := rn_e (by omega)
    rw [this] at h
    apply xX10_skipBlanks_0
    unfold vX10_skipBlanks_0
    have h600 := hT.1
    rw [hT.2.2.1, hT.2.2.2.1, nI_leI (by omega) (by omega), s_Vn]
    exact ⟨fun _ => h w (fr.refl _ _) hT hf rfl, fun z => absurd (by omega) z⟩
  | succ j ih =>
    intro a w Q hj hT hf h
    have h600 := hT.1
    obtain ⟨hy, hby⟩ := hT.2.2.2.2 a (by omega)
    apply xX10_skipBlanks_0
    unfold vX10_skipBlanks_0
    rw [hT.2.2.1, hT.2.2.2.1, nI_leI (by omega) (by omega), nI_clamp (by omega), hby, sx_32 _ hy, nI_1 a]
    refine ⟨fun z => absurd z (by omega), fun _ => ⟨(vp_nI (by omega)).mpr (by omega), fun z => ?_, fun z => ?_⟩⟩
    · have : sk N Y a = a := rn_x (by omega) (by simp [pB]; exact z)
      rw [this] at h
      rw [s_Vn]
      exact h w (fr.refl _ _) hT hf rfl
    · have z := Classical.not_not.mp z
      have : sk N Y a = sk N Y (a + 1) := rn_y (by omega) (by simp [pB]; exact z)
      rw [this] at h
      rintro _ rfl
      have f1 : fr aTx w (q_wI w 2 3 (nI (a + 1))) := fr.wr rfl
      refine ih (a + 1) _ Q (by omega) (hT.mv f1 rd_s (by omega)) (hf.mv (rd_j (by decide)) (rd_j (by decide))) (fun u fu tu ffu su => ?_)
      exact h u (f1.trans fu) tu ffu (su.trans (rd_j (by decide)))
theorem K_skipBlanks {d N a : Nat} {Y : Nat → Nat} {X : s_Xo} {f : Option (Nat × Nat)} {w : q_Sm} {Q : q_Sm → Prop} (hT : tC N Y a w) (hf : fC f w) (h : ∀ u, fr aTx w u → tC N Y (sk N Y a) u → fC f u → u.1 2 4 = w.1 2 4 → Q u) : s_EvV (d + 1) 0 mX10_skipBlanks w [.ref 2] Q X := by
  have := K_skip (d := d) (X := X) (N - a) a w Q (by have := hT.2.1; omega) hT hf h
  exact s_of (by decide +kernel) rfl (Nat.le_of_ble_eq_true rfl) this
