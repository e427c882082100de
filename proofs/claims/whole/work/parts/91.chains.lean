/-! ===== pure: chains, the call ===== -/
section
theorem pow_small {N : Nat} (h : N ≤ 6) : (N + 1) ^ N < 900000 := by
  rcases (by omega : N = 0 ∨ N = 1 ∨ N = 2 ∨ N = 3 ∨ N = 4 ∨ N = 5 ∨ N = 6) with e | e | e | e | e | e | e <;> subst e <;> decide
/-- what the begun ones cost -/
def cstR (L : Row2) (r : Nat → Nat) (w : Nat) : Nat := if r w = 0 then L 0 (L 5 w) else 0
theorem x_cost {σ : MS} {K P N : Nat} {L : Row2} {r : Nat → Nat} (hL : LX 23 σ K P N L) (hW : WL K P N L) (hr : ∀ u, u < N → sI σ 54 u = hI (r u)) (hb : ∀ u, r u ≤ 6) : ∀ (j k n c : Nat), k + j = N → j < n → b_X0_cost_4 n (nI c) (nI k) σ = some (nI (c + sumU (cstR L r) k j))
  | 0, k, n + 1, c, hk, _ => by
    have hN := hW.1.2.2.1
    unfold b_X0_cost_4 sumU
    rw [hL.1.2.2.1, q_le (by omega) (by omega), if_pos (by omega)]; rfl
  | j + 1, k, n + 1, c, hk, hn => by
    have hN := hW.1.2.2.1
    have hK := hW.1.1
    have hkk := (hW.2.2.2 k (by omega)).1
    have := hb k
    have ek : sI σ 29 k = nI (L 5 k) := (hL.2.2.2 k (by omega)).1
    have ep : sI σ 24 (L 5 k) = nI (L 0 (L 5 k)) := (hL.2.1 _ hkk).1
    have bk : inb (nI k) 6 := in_n (by omega) (by decide)
    unfold b_X0_cost_4 b_X0_cost_36 sumU
    rw [hL.1.2.2.1, q_le (by omega) (by omega), if_neg (by omega), chk_t bk, chk_t bk, ix_n (by omega), hr k (by omega), q_none (by omega), ek, chk_t (in_n (show L 5 k < 5 by omega) (by decide)), ix_n (by omega), ep, nI_1, nI_add]
    by_cases h0 : r k = 0
    · rw [if_pos h0, x_cost hL hW hr hb j (k + 1) n _ (by omega) (by omega), show cstR L r k = L 0 (L 5 k) from if_pos h0, Nat.add_assoc]
    · rw [if_neg h0, x_cost hL hW hr hb j (k + 1) n _ (by omega) (by omega), show cstR L r k = 0 from if_neg h0, Nat.zero_add]
  | _, _, 0, _, _, hn => absurd hn (Nat.not_lt_zero _)
theorem m_cost {σ : MS} {K P N : Nat} {L : Row2} {r : Nat → Nat} (hL : LM σ K P N L) (hW : WL K P N L) (hr : ∀ u, u < N → sI σ 42 u = hI (r u)) (hb : ∀ u, r u ≤ 6) {d : Nat} (hd : d ≤ 7) (y4 : Int32) : ∀ (j k n c : Nat), k + j = N → j < n → b_X12_chains_120 n (nI d) (nI N) y4 (nI c) (nI k) σ = some (if d = 0 then y4 else if d = 1 then nI (c + sumU (cstR L r) k j) else if N ≤ d - 2 then -2 else hI (r (d - 2)), σ)
  | 0, k, n + 1, c, hk, _ => by
    have hN := hW.1.2.2.1
    unfold b_X12_chains_120 b_X12_chains_203 sumU
    rw [q_le (by omega) (by omega), if_pos (by omega), q_zero (by omega), q_nl_eq (by decide) (by omega)]
    by_cases d0 : d = 0
    · rw [if_pos d0, if_pos d0]
    · rw [if_neg d0, if_neg d0]
      by_cases d1 : d = 1
      · rw [if_pos d1, if_pos d1]; rfl
      · rw [if_neg d1, if_neg d1, nl_sub (show 2 ≤ d by omega), q_le (by omega) (by omega)]
        by_cases c2 : N ≤ d - 2
        · rw [if_pos c2, if_pos c2]
        · rw [if_neg c2, if_neg c2, chk_t (in_n (show d - 2 < 6 by omega) (by decide)), ix_n (by omega), hr _ (by omega)]
  | j + 1, k, n + 1, c, hk, hn => by
    have hN := hW.1.2.2.1
    have hK := hW.1.1
    have hkk := (hW.2.2.2 k (by omega)).1
    have := hb k
    have ek : sI σ 8 k = nI (L 5 k) := (hL.2.2.2 k (by omega)).1
    have ep : sI σ 2 (L 5 k) = nI (L 0 (L 5 k)) := (hL.2.1 _ hkk).1
    have bk : inb (nI k) 6 := in_n (by omega) (by decide)
    conv => lhs; unfold b_X12_chains_120 b_X12_chains_155
    rw [q_le (by omega) (by omega), if_neg (show ¬ N ≤ k by omega), chk_t bk, chk_t bk, ix_n (by omega), hr k (by omega), q_none (by omega), ek, chk_t (in_n (show L 5 k < 5 by omega) (by decide)), ix_n (by omega), ep, nI_1, nI_add]
    have es : sumU (cstR L r) k (j + 1) = cstR L r k + sumU (cstR L r) (k + 1) j := rfl
    rw [es]
    by_cases h0 : r k = 0
    · rw [if_pos h0, m_cost hL hW hr hb hd y4 j (k + 1) n _ (by omega) (by omega), show cstR L r k = L 0 (L 5 k) from if_pos h0, Nat.add_assoc]
    · rw [if_neg h0, show nI c + (0 : Int32) = nI (c + 0) from nI_add _ 0, m_cost hL hW hr hb hd y4 j (k + 1) n _ (by omega) (by omega), show cstR L r k = 0 from if_neg h0, Nat.zero_add, Nat.add_zero]
  | _, _, 0, _, _, hn => absurd hn (Nat.not_lt_zero _)
theorem VR_0 (A : Nat → Nat) (N : Nat) : VR A N 0 := fun u hu h0 => by
  exfalso; apply h0
  unfold pd
  rw [Nat.zero_div, Nat.zero_mod]
theorem bg_0 (N : Nat) : bgC N 0 = N := by
  unfold bgC
  have : ∀ w, nB (pd (N + 1) 0 N) w = w := fun w => by
    induction w with
    | zero => rfl
    | succ w ih =>
      have e : pd (N + 1) 0 N w = 0 := by unfold pd; rw [Nat.zero_div, Nat.zero_mod]
      rw [nB_s, ih, if_pos e]
  exact this N
theorem s_19 : StpK 19 := fun t a σx σm _ hI0 => by
  have hF := FU_big
  have hI1 := hI0
  obtain ⟨ow, W, Wi, RR, T, len, h1, h2, h3⟩ := hI0
  have hW := h3.2.2.1.1
  obtain ⟨⟨hK5, hP4, hN6, hf⟩, hW2, hW3, hW4⟩ := hW.2.1.1
  have hx := h1.2.2.2.1.v
  have hm := h2.2.2.1
  have h01 := hW.1.1
  have e0 : sI σx 23 0 = nI (wc W 0) := hx.1.1
  have e0m : sI σm 0 28 = nI (wc W 0) := hm.1.1
  have e4 : sI σx 23 4 = nI (wc W 3) := hx.1.2.1.2.2.1
  have e4m : sI σm 1 4 = nI (wc W 3) := hm.1.2.1.2.2.1
  show ∃ r σx' σm', f_X11_chains (a 1) σx = some (r, σx') ∧ f_X12_chains (a 1) σm = some (r, σm') ∧ Inv (t + 1) σx' σm'
  have fail : ∃ r σx' σm', b_X11_chains_23 σx = some (r, σx') ∧ b_X12_chains_19 σm = some (r, σm') ∧ Inv (t + 1) σx' σm' := ⟨-3, σx, σm, rfl, rfl, hI1.up (by omega)⟩
  unfold f_X11_chains b_X11_chains_0 f_X12_chains b_X12_chains_0
  rw [e0, e0m, q_zero (by omega), q_zero (by omega)]
  by_cases hz : wc W 0 = 0
  · rw [if_pos hz, if_pos hz]; exact fail
  · rw [if_neg hz, if_neg hz]
    rcases m_in (a 1) (l := 0) (h := 7) 0 7 (by decide) (by decide) (by decide) (by decide) with ⟨g, h⟩ | ⟨d, g1, g2, ed, h⟩
    · rw [h, bnd, if_pos rfl]
      by_cases g0 : a 1 < 0
      · rw [if_pos g0]; exact fail
      · rw [if_neg g0, if_neg]
        · exact fail
        · rcases g with g | g
          · exact absurd g g0
          · rw [Int32.lt_iff_toInt_lt] at g
            rw [Int32.le_iff_toInt_le]
            have u1 : (nI 7).toInt = 7 := by decide
            have u2 : (7 : Int32).toInt = 7 := by decide
            omega
    · rw [h, bnd, if_neg one_ne, ed, if_neg (nI_pos (by omega)), q_nl_le (by decide) (by omega), if_pos g2, q_nl_le (by decide) (by omega), e4m]
      have hA : ∀ w, w < wc W 3 → wL W 6 w < 64 := fun w hw => Nat.lt_of_lt_of_le (hW4 w hw).2 (Nat.pow_le_pow_right (n := 2) (by decide) hN6)
      have hM := pow_small hN6
      have hMp : 0 < (wc W 3 + 1) ^ wc W 3 := Nat.pow_pos (by omega)
      -- the best of all rows
      obtain ⟨best, hbest⟩ : ∃ best, best = fdB (VR (wL W 6) (wc W 3)) (bgC (wc W 3)) 1 ((wc W 3 + 1) ^ wc W 3 - 1) (wc W 3, 0) := ⟨_, rfl⟩
      have hb0 : ∀ acc : Nat × Nat, wc W 3 < acc.1 → fdB (VR (wL W 6) (wc W 3)) (bgC (wc W 3)) 0 ((wc W 3 + 1) ^ wc W 3) acc = best := fun acc hacc => by
        obtain ⟨M, hM1⟩ : ∃ M, (wc W 3 + 1) ^ wc W 3 = M + 1 := ⟨(wc W 3 + 1) ^ wc W 3 - 1, by omega⟩
        rw [hbest, hM1, fdB_s, if_pos ⟨VR_0 _ _, by rw [bg_0]; exact hacc⟩, bg_0, Nat.add_sub_cancel]
      have hble : best.1 ≤ wc W 3 := by rw [hbest]; exact fdB_le _ _ _ _ _
      have hbd : ∀ u, pd (wc W 3 + 1) best.2 (wc W 3) u ≤ 6 := fun u => by have := pd_lt (B := wc W 3 + 1) (by omega) best.2 (wc W 3) u; omega
      -- the class
      obtain ⟨σx1, x1, x2, x3, x4⟩ := x_try (N := wc W 3) (A := wL W 6) hN6 hA (wc W 3) 0 8 0 0 0 (wc W 3 + 1, 0) (wI σx 52 2 (nI (wc W 3 + 1))) (by omega) (by omega) ⟨⟨by rw [sI_wIn _ _ _ _ (by decide)]; exact e4, fun u hu => by rw [sI_wIn _ _ _ _ (by decide)]; exact (hx.1.2.2.2.2 u hu).2⟩, fun u hu => absurd hu (Nat.not_lt_zero _), fun u hu => absurd hu (Nat.not_lt_zero _), ⟨by decide, fun f hf => by
          have e : bt 0 f = 0 := by unfold bt; rw [Nat.zero_div]
          rw [e]
          constructor
          · intro q; omega
          · rintro ⟨u, q1, _⟩; omega⟩, rfl⟩ ⟨sI_wIs _ _ _ _, Nat.le_refl _, Or.inl rfl⟩
      rw [Nat.zero_mul, hb0 _ (by show wc W 3 < wc W 3 + 1; omega)] at x4
      have xs : f_X0_solve σx = some σx1 := by
        unfold f_X0_solve b_X0_solve_0
        rw [e4, nI_1, show (0 : Int32) = nI 0 from rfl, x1]; rfl
      have rx : ∀ b, b ≠ 52 → b ≠ 53 → b ≠ 54 → sI σx1 b = sI σx b := fun b q1 q2 q3 => by rw [x2.2 b q1 q2 q3, sI_wIn _ _ _ _ q1]
      have xr : ∀ u, u < wc W 3 → sI σx1 54 u = hI (pd (wc W 3 + 1) best.2 (wc W 3) u) := fun u hu => by
        rcases x4.2.2 with q | q
        · omega
        · exact q u hu
      have scx : ScX σx σx1 := ⟨x2.1.1, x2.1.2.1, fun b _ => by rw [x2.1.2.2]; rfl, fun b hb => rx b (by omega) (by omega) (by omega), by rw [rx 0 (by decide) (by decide) (by decide)]⟩
      -- the reference
      obtain ⟨σm1, m1, m2, m3, m4⟩ := m_codes (N := wc W 3) (A := wL W 6) hN6 hA hM (nI d) ((wc W 3 + 1) ^ wc W 3) 0 FU (7, 0) σm (by omega) (by omega) e4m (fun u hu => (hm.1.2.2.2.2 u hu).2) ⟨Nat.le_refl _, Or.inl rfl⟩
      rw [hb0 _ (by show wc W 3 < 7; omega)] at m1 m4
      have mr : ∀ u, u < wc W 3 → sI σm1 42 u = hI (pd (wc W 3 + 1) best.2 (wc W 3) u) := fun u hu => by
        rcases m4.2 with q | q
        · omega
        · exact q u hu
      have scm : ScM σm σm1 := ⟨m2, fun j _ => by rw [m3 0 (by decide) (by decide)], fun b hb => m3 b (by omega) (by omega), fun j _ => by rw [m3 1 (by decide) (by decide)], fun j _ => by rw [m3 4 (by decide) (by decide)], fun j _ => by rw [m3 9 (by decide) (by decide)], fun j _ => by rw [m3 10 (by decide) (by decide)], fun j _ => by rw [m3 45 (by decide) (by decide)]⟩
      have hInv : Inv (t + 1) σx1 σm1 := (hI1.sc scx scm).up (by omega)
      have hInvm : Inv (t + 1) σx σm1 := (hI1.sc (ScX.refl σx) scm).up (by omega)
      have lm1 : LM σm1 (wc W 1) (wc W 2) (wc W 3) (wL W) := hm.1.2.cg hK5 hP4 hN6 (fun j _ => by rw [m3 1 (by decide) (by decide)]) (fun b j hb _ => by rw [m3 b (by omega) (by omega)])
      have lx1 : LX 23 σx1 (wc W 1) (wc W 2) (wc W 3) (wL W) := hx.1.2.fr (fun b q1 q2 => rx b (by omega) (by omega) (by omega))
      have hmall := m_cost lm1 hW.2.1.1 mr hbd g2 (nI best.1) (wc W 3) 0 FU 0 (by omega) (by omega)
      have hp := m_pow hN6 (nI d) σm (wc W 3) 0 FU (by omega) (by omega)
      have emall : b_X12_chains_34 FU (nI d) (nI (wc W 3)) 1 0 σm = _ := (show b_X12_chains_34 FU (nI d) (nI (wc W 3)) 1 0 σm = b_X12_chains_34 FU (nI d) (nI (wc W 3)) (nI ((wc W 3 + 1) ^ 0)) (nI 0) σm from rfl).trans (hp.trans (m1.trans hmall))
      rw [emall]
      have e44 : b_X11_chains_44 (nI d) σx = if d = 0 then some (nI best.1, σx1) else if d = 1 then some (nI (0 + sumU (cstR (wL W) (pd (wc W 3 + 1) best.2 (wc W 3))) 0 (wc W 3)), σx1) else chk (inb (nI d - 2) 6) (some (sI σx1 54 (ix (nI d - 2)), σx1)) := by
        unfold b_X11_chains_44
        rw [xs, bnd, q_nl_eq (by decide) (by omega), q_nl_eq (by decide) (by omega), x4.1]
        have hc : f_X0_cost σx1 = _ := x_cost lx1 hW.2.1.1 xr hbd (wc W 3) 0 FU 0 (by omega) (by omega)
        rw [hc, bnd]
      rw [e44]
      by_cases d1 : d ≤ 1
      · rw [if_pos d1]
        rcases (by omega : d = 0 ∨ d = 1) with e | e
        · rw [if_pos e, if_pos e]; exact ⟨_, _, _, rfl, rfl, hInv⟩
        · rw [if_neg (show ¬ d = 0 by omega), if_neg (show ¬ d = 0 by omega), if_pos e, if_pos e]; exact ⟨_, _, _, rfl, rfl, hInv⟩
      · rw [if_neg d1, if_neg (show ¬ d = 0 by omega), if_neg (show ¬ d = 0 by omega), if_neg (show ¬ d = 1 by omega), if_neg (show ¬ d = 1 by omega), nl_sub (show 2 ≤ d by omega)]
        rcases w_isWork e4 e4m (by omega) (nI (d - 2)) with ⟨j, k1, k2, k3, k4⟩ | ⟨k3, k4⟩
        · have ej : d - 2 = j := (nI_eq (by omega) (by omega)).mp k2
          rw [k3, bnd, if_neg one_ne, if_neg (by omega), chk_t (in_n (show d - 2 < 6 by omega) (by decide)), ix_n (by omega), xr _ (by omega)]
          exact ⟨_, _, _, rfl, rfl, hInv⟩
        · have hge : wc W 3 ≤ d - 2 := by
            by_cases q : wc W 3 ≤ d - 2
            · exact q
            · exfalso
              unfold f_X11_isWork b_X11_isWork_0 b_X11_isWork_23 at k3
              rw [if_neg (nI_pos (by omega)), e4, q_le (by omega) (by omega), if_neg q, chk_t (Or.inr rfl)] at k3
              exact absurd k3 (by decide)
          rw [k3, bnd, if_pos rfl, if_pos hge]
          exact ⟨_, _, _, rfl, rfl, hInvm⟩
end
