/-! cells that are made -/
theorem q_ws_succ {G : q_G} {n : Nat} {w : q_Mem} : q_ws G (n + 1) w = q_ws G n w ++ [(G.2.2.1 + (n + 1), q_cell G w (n + 1))] := by
  unfold q_ws
  rw [List.range_succ, List.map_append]
  rfl
/-- one cell more -/
theorem q_hd.push {G : q_G} {n : Nat} {w : q_Mem} {H H' : Heap} (h : q_hd G n w H) (hk : ∀ q, q < G.2.2.1 + n + 1 → H'[q]? = H[q]?) (hnew : va_at G.1 vwCl (G.2.2.1 + (n + 1), q_cell G w (n + 1)) H') : q_hd G (n + 1) w H' := by
  unfold q_hd
  rw [q_ws_succ]
  intro k q hq
  by_cases hkn : k < n
  · have h1 : (q_ws G n w)[k]? = some q := by
      rw [List.getElem?_append_left (by simpa [q_ws] using hkn)] at hq
      exact hq
    refine (h k q h1).kept (hk q.1 ?_)
    have h2 := q_ws_get (G := G) (w := w) (id := k + 1) (n := n) (by omega) (by omega)
    rw [Nat.add_sub_cancel, h1] at h2
    cases h2
    show G.2.2.1 + (k + 1) < G.2.2.1 + n + 1
    omega
  · rw [List.getElem?_append_right (by simpa [q_ws] using hkn)] at hq
    have hl : (q_ws G n w).length = n := by simp [q_ws]
    rw [hl] at hq
    by_cases he : k - n = 0
    · rw [he] at hq
      cases hq
      exact hnew
    · have : 1 ≤ k - n := by omega
      rw [List.getElem?_eq_none (by simpa using this)] at hq
      cases hq
theorem q_S_grow {G : q_G} {n : Nat} {H0 H H' : Heap} {locs : List Loc} (hS : va_S (q_A G) H0 H locs) (hs : H.size = G.2.2.1 + n + 1) (hs' : H'.size = G.2.2.1 + n + 1 + 1) (hk : ∀ q, q < G.2.2.1 + n + 1 → H'[q]? = H[q]?) : va_S (q_A G) H0 H' locs := by
  obtain ⟨h1, h2, h3⟩ := hS
  exact ⟨by omega, fun q hq hA => by rw [hk q (by omega)]; exact h2 q hq hA, h3⟩
def q_aty : Nat → ArrayType
  | 13 => .byte
  | 14 => .int
  | 15 => .long
  | _ => .boolean
theorem q_Ex_newarr {d a b pc n N x : Nat} {M : q_Mt} {L : List (Option Value)} {st : List Value} {w : q_Mem} {Q : q_Po} {X : q_Xo} {v : Int32} (hx : x = 13 ∨ x = 14 ∨ x = 15 ∨ x = 16) (hn : 0 < n) (hv : ¬ v < 0) (hN : v.toNatClampNeg = N) (hb : N ≤ 4000) (hsh : q_sh (n + 1) = (x, N)) (hz : (∀ j, w.1 (n + 1) j = 0) ∧ ∀ j, w.2.1 (n + 1) j = 0)
    (hdec : decode M.2.2.1 pc = .ok (.newarray (q_aty x), 2)) (hw : Cond.arrayClass (newarray.typeOf (q_aty x)) ∈ q_TB)
    (k : q_Ex d a b M (n + 1) true (pc + 2, L, .ref (n + 1) :: st, w) Q X) : q_Ex d (a + 1) (b + N) M n true (pc, L, .int v :: st, w) Q X := by
  intro G p l e R s m args below meth c Z C h1 h2 h3 h4 H locs cells slots ls g1 g0 g2 g3 g4 g5 T hT X9
  obtain ⟨hexec, hbb, hml, hown, hts, hK, hF, hlt⟩ := id C
  have hsz : H.size = G.2.2.1 + n + 1 := q_tight g1 hn hT X9 (g0 rfl)
  have goal : W p l e R s m args below meth c H locs cells slots Z (F0 m pc ls (.int v :: st.map (q_tv G))) := by
    refine va_newaK (g := F0 m pc ls (.int v :: st.map (q_tv G))) (N := N) hexec hbb (hts _ hw) rfl hdec rfl hv hN ?_ (by omega) (by omega) hsz (fun H' cA e1 e2 e3 e4 e5 => ?_)
    · rcases hx with rfl | rfl | rfl | rfl <;> simp only [q_aty, newarray.typeOf, componentBytes] <;> omega
    · have hcA : cA = G.2.1 x := by
        have h9 := hK.2.2.2.2.2.2
        rcases hx with rfl | rfl | rfl | rfl
        · exact Option.some.inj (e5.symm.trans (h9 (13, "[B") (by simp [q_AN])))
        · exact Option.some.inj (e5.symm.trans (h9 (14, "[I") (by simp [q_AN])))
        · exact Option.some.inj (e5.symm.trans (h9 (15, "[J") (by simp [q_AN])))
        · exact Option.some.inj (e5.symm.trans (h9 (16, "[Z") (by simp [q_AN])))
      have hnew : va_at G.1 vwCl (G.2.2.1 + (n + 1), q_cell G w (n + 1)) H' := by
        have hc : q_cell G w (n + 1) = .inl (G.2.1 x, N, q_arr G w (n + 1) x) := by
          rw [q_cell_arr (x := x) (by rw [hsh]) (by omega), hsh]
        rw [hc]
        show H'[G.2.2.1 + (n + 1)]? = some (vp_cell (G.2.1 x) (N, q_arr G w (n + 1) x))
        rw [show G.2.2.1 + (n + 1) = G.2.2.1 + n + 1 by omega, e1, hcA]
        have z1 : w.1 (n + 1) = fun _ => 0 := funext hz.1
        have z2 : w.2.1 (n + 1) = fun _ => 0 := funext hz.2
        rcases hx with rfl | rfl | rfl | rfl
        · rw [q_arr_i (Or.inl rfl), z1]; rfl
        · rw [q_arr_i (Or.inr (Or.inl rfl)), z1]; rfl
        · have : q_arr G w (n + 1) 15 = .inr (.inl (w.2.1 (n + 1))) := rfl
          rw [this, z2]; rfl
        · rw [q_arr_i (Or.inr (Or.inr rfl)), z1]; rfl
      have k2 := k G p l e R s m args below meth c Z C h1 h2 h3 h4 H' locs (cells + 1) (slots + N) ls (q_hd.push g1 (fun q hq => e3 q (by omega)) hnew) (fun _ => by have := g0 rfl; omega) (q_S_grow g2 hsz (by omega) (fun q hq => e3 q (by omega))) g3 (by omega) (by omega)
      have e9 : q_tv G (.ref (n + 1)) = .ref (G.2.2.1 + n + 1) := by rw [q_tv_pos G (by omega)]; rfl
      have k3 : W p l e R s m args below meth c H' locs (cells + 1) (slots + N) Z (F0 m (pc + 2) ls (q_tv G (.ref (n + 1)) :: st.map (q_tv G))) := k2
      rw [e9] at k3
      exact k3
  exact goal T hT X9
