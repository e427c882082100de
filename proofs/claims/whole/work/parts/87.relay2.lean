/-! ===== pure: relay, the call ===== -/
section
theorem w_rel (x : Int32) : (x < (-1 : Int32) ∧ f_X12_in x.toInt64 (-1) 47 = some 0) ∨ (¬ x < (-1 : Int32) ∧ ¬ x < (48 : Int32) ∧ f_X12_in x.toInt64 (-1) 47 = some 0) ∨ (x = -1 ∧ f_X12_in x.toInt64 (-1) 47 = some 1) ∨ ∃ w, w < 48 ∧ x = nI w ∧ f_X12_in x.toInt64 (-1) 47 = some 1 := by
  have g : f_X12_in x.toInt64 (-1) 47 = some (if x < (-1 : Int32) ∨ (47 : Int32) < x then 0 else 1) := m_in_gen x (-1) 47
  have u1 : (-1 : Int32).toInt = -1 := by decide
  have u2 : (48 : Int32).toInt = 48 := by decide
  have u3 : (47 : Int32).toInt = 47 := by decide
  have u0 : (nI 0).toInt = 0 := by decide
  by_cases h1 : x < (-1 : Int32)
  · exact Or.inl ⟨h1, by rw [g, if_pos (Or.inl h1)]⟩
  · by_cases h2 : (47 : Int32) < x
    · refine Or.inr (Or.inl ⟨h1, ?_, by rw [g, if_pos (Or.inr h2)]⟩)
      rw [Int32.lt_iff_toInt_lt] at h2 ⊢
      omega
    · rw [if_neg (by rintro (h | h); exact h1 h; exact h2 h)] at g
      rcases rng x (lo := 0) (hi := 47) (by decide) (by decide) with h | h | ⟨w, _, h4, h5⟩
      · refine Or.inr (Or.inr (Or.inl ⟨?_, g⟩))
        apply Int32.toInt_inj.mp
        rw [Int32.lt_iff_toInt_lt] at h h1
        omega
      · exact absurd h h2
      · exact Or.inr (Or.inr (Or.inr ⟨w, by omega, h5, g⟩))
theorem s_17 : StpK 17 := fun t a σx σm _ hI0 => by
  have hF := FU_big
  have hI1 := hI0
  obtain ⟨ow, W, Wi, RR, T, len, h1, h2, h3⟩ := hI0
  have hW := h3.2.2.1.1
  have hV := hW.2.2.1.1
  have h999 := hW.2.2.1.2
  obtain ⟨⟨hK5, hP4, hN6, hf⟩, hW2, hW3, hW4⟩ := hW.2.1.1
  have hx := h1.2.2.2.1.v
  have hm := h2.2.2.1
  show ∃ r σx' σm', f_X11_relay (a 1) (a 2) (a 3) σx = some (r, σx') ∧ f_X12_relay (a 1) (a 2) (a 3) σm = some (r, σm') ∧ Inv (t + 1) σx' σm'
  have fail : ∃ r σx' σm', b_X11_relay_26 σx = some (r, σx') ∧ b_X12_relay_34 σm = some (r, σm') ∧ Inv (t + 1) σx' σm' := ⟨-3, σx, σm, rfl, rfl, hI1.up (by omega)⟩
  unfold f_X11_relay b_X11_relay_0 f_X12_relay b_X12_relay_0
  rcases w_goes hx.1.2.1.2.2.1 hm.1.2.1.2.2.1 hN6 hP4 hx.2.2.1 hm.2.1 hV (a 1) with ⟨w, k1, e1, k2, k3, k4⟩ | ⟨k3, k4⟩
  · rw [k3, k4, bnd, bnd, if_neg one_ne, if_neg one_ne, e1]
    rcases w_plan (a 2) with ⟨n, n1, n2, e2, n3, n4⟩ | ⟨n3, n4⟩
    · rw [n3, n4, bnd, bnd, if_neg one_ne, if_neg one_ne, e2]
      -- the tables
      obtain ⟨v, hv⟩ : ∃ v, wS W 0 w = v + 1 := ⟨wS W 0 w - 1, by omega⟩
      have hvP : v < wc W 2 := by have := (hV.1 w (by omega)).1; omega
      have bw : inb (nI w) 6 := in_n (by omega) (by decide)
      have ex : sI σx 36 w = nI v := by rw [show sI σx 36 w = hI (wS W 0 w) from (hx.2.2.1.1 w (by omega)).1, hv, hI_s]
      have em : sI σm 9 w = nI v := by rw [(hm.2.1.1 w k1).1, hv, hI_s]
      have e35 : sI σx 35 5 = nI (wS W 3 5) := hx.2.2.1.2.2.2.2
      have em5 : sI σm 1 5 = nI (wS W 3 5) := hm.2.1.2.2.2.2
      have hL3 : ∀ p, p < wc W 2 → wL W 2 p ≤ 23 ∧ wL W 3 p ≤ 24 := fun p hp => ⟨(hW3 p hp).1, (hW3 p hp).2.1⟩
      have eP : sI σx 23 3 = nI (wc W 2) := hx.1.2.1.2.1
      obtain ⟨σx1, a1, a2, a3, a4⟩ := x_weigh_out (P := wc W 2) (h := wS W 3 5) (n := n) (L := wL W) hP4 h999 n2 hL3 n FU (wI σx 50 1 (nI (wc W 2))) (Nat.le_refl _) (by omega) (by rw [sI_wIs]) (fun p hp => by
        rw [sI_wIn _ _ _ _ (show (26 : Nat) ≠ 50 by decide), sI_wIn _ _ _ _ (show (27 : Nat) ≠ 50 by decide)]
        exact ⟨(hx.1.2.2.2.1 p hp).1, (hx.1.2.2.2.1 p hp).2.1⟩) (fun k r q1 q2 => by omega)
      obtain ⟨σm1, b1, b2, b3, b4⟩ := m_weigh_out (P := wc W 2) (h := wS W 3 5) (n := n) (L := wL W) hP4 h999 n2 hL3 n FU σm (Nat.le_refl _) (by omega) hm.1.2.1.2.1 em5 (fun p hp => ⟨(hm.1.2.2.2.1 p hp).1, (hm.1.2.2.2.1 p hp).2.1⟩) (fun k r q1 q2 => by omega)
      have rx : ∀ b, b ≠ 50 → b ≠ 51 → sI σx1 b = sI σx b := fun b q1 q2 => by rw [a3 b q2, sI_wIn _ _ _ _ q1]
      have ew : f_X5_weigh (sI σx 35 5) (nI n) σx = some σx1 := by
        unfold f_X5_weigh b_X5_weigh_0
        rw [e35, eP]; exact a1
      have el : f_X12_laysHandings (nI n) σm = some σm1 := b1
      have scx : ScX σx σx1 := ⟨a2.1, a2.2.1, fun b _ => by rw [a2.2.2]; rfl, fun b hb => rx b (by omega) (by omega), by rw [rx 0 (by decide) (by decide)]⟩
      have scm : ScM σm σm1 := ⟨b2, fun j _ => by rw [b3 0 (by decide)], fun b hb => b3 b (by omega), fun j _ => by rw [b3 1 (by decide)], fun j _ => by rw [b3 4 (by decide)], fun j _ => by rw [b3 9 (by decide)], fun j _ => by rw [b3 10 (by decide)], fun j _ => by rw [b3 45 (by decide)]⟩
      have hInv : Inv (t + 1) σx1 σm1 := (hI1.sc scx scm).up (by omega)
      have hInvm : Inv (t + 1) σx σm1 := (hI1.sc (ScX.refl σx) scm).up (by omega)
      have h50 : sI σx1 50 1 = nI (wc W 2) := by rw [a3 50 (by decide), sI_wIs]
      have h13 : sI σm1 1 3 = nI (wc W 2) := by rw [b3 1 (by decide)]; exact hm.1.2.1.2.1
      have e36 : sI σx1 36 w = nI v := by rw [rx 36 (by decide) (by decide)]; exact ex
      have e9 : sI σm1 9 w = nI v := by rw [b3 9 (by decide)]; exact em
      generalize hCd : (fun k r => cst (wL W) (wS W 3 5) (wc W 2) (n - 1 - k) k r) = C
      have hC : ∀ k r, C k r ≤ 1000 := fun k r => by rw [← hCd]; exact cst_le _ _ _ _ _ _
      have hcx : ∀ k r, k < n → r < wc W 2 → sI σx1 51 (k * 4 + r) = nI (C k r) := fun k r q1 q2 => by rw [← hCd]; exact a4 k r q1 q2
      have hcm : ∀ k r, k < n → r < wc W 2 → sI σm1 40 (4 * k + r) = nI (C k r) := fun k r q1 q2 => by rw [← hCd]; exact b4 k r q1 q2
      have hgo : ∀ k p, k + 1 < n → C k p < 1000 → mnH (C (k + 1)) p (wc W 2) < 1000 := fun k p q1 q2 => by
        rw [← hCd] at q2 ⊢
        simp only [show n - 1 - k = (n - 1 - (k + 1)) + 1 by omega] at q2
        rw [cst_s] at q2
        by_cases c : asl (wL W 2 p) (wL W 3 p) (wS W 3 5 + k) = 0
        · rw [if_pos c] at q2; exact q2
        · rw [if_neg c] at q2; omega
      have hfew : f_X5_fewestFrom (0 : Int32) (nI v) σx1 = some (nI (mnH (C 0) v (wc W 2))) := x_fewest (k := 0) hP4 h50 (by decide) (by omega) (fun r hr => hcx 0 r (by omega) hr) (hC 0)
      have hmle := mnH_le (C 0) v (wc W 2)
      rcases w_rel (a 3) with ⟨q1, q2⟩ | ⟨q1, q2, q3⟩ | ⟨q1, q2⟩ | ⟨d, q1, q2, q3⟩
      · rw [if_pos q1, q2, bnd, if_pos rfl]; exact fail
      · rw [if_neg q1, if_neg q2, q3, bnd, if_pos rfl]; exact fail
      · have c1 : ¬ a 3 < (-1 : Int32) := by rw [q1]; decide
        have c2 : a 3 < (48 : Int32) := by rw [q1]; decide
        have c3 : a 3 < nI n := by
          rw [q1, Int32.lt_iff_toInt_lt, nI_toInt (by omega), show (-1 : Int32).toInt = -1 from by decide]; omega
        rw [if_neg c1, if_pos c2, if_pos c3, q2, bnd, if_neg one_ne, ew, el, bnd, bnd, chk_t bw, chk_t bw, ix_n (by omega), e36, e9, hfew, bnd, q_nl_lt (by decide) (by omega), q1]
        obtain ⟨F, hFe⟩ : ∃ F, FU = F + 1 + 1 := ⟨FU - 2, by omega⟩
        have hnx := m_next (b_X12_relay_58 (F + 1)) (σ := σm1) (C := C 0) (k := 0) (q := v) (y2 := nI n) (y3 := -1) (y5 := 1000) hP4 (by omega) (by omega) h13 (fun r hr => hcm 0 r (by omega) hr) (hC 0) (wc W 2) 0 FU (by omega) (by omega)
        have hnx' : b_X12_relay_90 (b_X12_relay_58 (F + 1)) FU (nI n) (-1) (nI v) 1000 (nI 0) (-1) 1000 (nI 0) σm1 = _ := hnx
        have h58 : b_X12_relay_58 FU (nI n) (-1) (nI v) 1000 0 σm1 = b_X12_relay_90 (b_X12_relay_58 (F + 1)) FU (nI n) (-1) (nI v) 1000 (nI 0) (-1) 1000 (nI 0) σm1 := by
          conv => lhs; rw [hFe]
          conv => lhs; unfold b_X12_relay_58 b_X12_relay_76
          rw [show (0 : Int32) = nI 0 from rfl, q_le (by omega) (by omega), if_neg (by omega), if_pos rfl, q_lt (by omega) (by omega), if_neg (by omega)]
        rw [h58, hnx']
        unfold b_X12_relay_161
        rcases nxH_ok (C 0) v (wc W 2) with ⟨e, e'⟩ | ⟨e, p, e', hp, _⟩
        · rw [e', hI_0, if_pos rfl, if_neg (by omega)]
          exact ⟨-2, _, _, rfl, rfl, hInv⟩
        · rw [e', hI_s, if_neg (n_neg1 (by omega)), if_pos e, if_pos rfl, if_pos rfl, nI_1]
          refine ⟨_, _, _, rfl, ?_, hInv⟩
          have e182 : b_X12_relay_182 (nI n) (-1) (nI p) (nI (mnH (C 0) v (wc W 2))) σm1 = some (nI (mnH (C 0) v (wc W 2)), σm1) := by
            unfold b_X12_relay_182 b_X12_relay_204
            rw [if_pos rfl]
          unfold b_X12_relay_58 b_X12_relay_76
          rw [if_pos rfl, show (0 : Int32) = nI 0 from rfl, q_lt (by omega) (by omega), if_pos (show 0 < 0 + 1 by decide), e182, ite_self]
      · rw [q2] at q3
        rw [q2, q3, bnd, if_neg one_ne, if_neg (show ¬ nI d < (-1 : Int32) by rw [Int32.lt_iff_toInt_lt, nI_toInt (by omega), show (-1 : Int32).toInt = -1 from by decide]; omega), q_nl_lt (by decide) (by omega), if_pos q1, q_lt (by omega) (by omega), el, bnd, chk_t bw, ix_n (by omega), e9]
        by_cases c : d < n
        · rw [if_pos c, ew, bnd, chk_t bw, e36, hfew, bnd, q_nl_lt (by decide) (by omega)]
          by_cases c2 : mnH (C 0) v (wc W 2) < 1000
          · obtain ⟨u, r1, r2⟩ := relay_on (σx := σx1) (σm := σm1) hP4 n2 h13 h50 hcm hcx hC hgo c (d + 1) 0 FU FU v 1000 (by omega) (by omega) (by omega) hvP (fun _ => c2)
            have r1' : f_X5_holderIn (nI d) (nI v) σx1 = some (nI u) := r1
            have r2' : b_X12_relay_58 FU (nI n) (nI d) (nI v) 1000 0 σm1 = some (nI u, σm1) := r2
            rw [if_pos c2, if_neg (n_neg1 (by omega)), r1', bnd, r2']
            exact ⟨_, _, _, rfl, rfl, hInv⟩
          · rw [if_neg c2]
            refine ⟨-2, _, _, rfl, ?_, hInv⟩
            obtain ⟨F, hFe⟩ : ∃ F, FU = F + 1 := ⟨FU - 1, by omega⟩
            have hnx := m_next (b_X12_relay_58 F) (σ := σm1) (C := C 0) (k := 0) (q := v) (y2 := nI n) (y3 := nI d) (y5 := 1000) hP4 (by omega) (by omega) h13 (fun r hr => hcm 0 r (by omega) hr) (hC 0) (wc W 2) 0 FU (by omega) (by omega)
            have hnx' : b_X12_relay_90 (b_X12_relay_58 F) FU (nI n) (nI d) (nI v) 1000 (nI 0) (-1) 1000 (nI 0) σm1 = _ := hnx
            have h58 : b_X12_relay_58 FU (nI n) (nI d) (nI v) 1000 0 σm1 = b_X12_relay_90 (b_X12_relay_58 F) FU (nI n) (nI d) (nI v) 1000 (nI 0) (-1) 1000 (nI 0) σm1 := by
              conv => lhs; rw [hFe]
              conv => lhs; unfold b_X12_relay_58 b_X12_relay_76
              rw [show (0 : Int32) = nI 0 from rfl, q_le (by omega) (by omega), if_neg (by omega), if_neg (n_neg1 (by omega)), q_lt (by omega) (by omega), if_neg (by omega)]
            rw [h58, hnx']
            unfold b_X12_relay_161
            rcases nxH_ok (C 0) v (wc W 2) with ⟨e, e'⟩ | ⟨e, _⟩
            · rw [e', hI_0, if_pos rfl]
            · exact absurd e c2
        · rw [if_neg c]
          refine ⟨-2, _, _, rfl, ?_, hInvm⟩
          exact relay_far hP4 n2 h13 hcm hC (by omega) q1 n 0 FU v 1000 (by omega) (by omega) hvP
    · rw [n3, n4, bnd, bnd, if_pos rfl, if_pos rfl]; exact fail
  · rw [k3, k4, bnd, bnd, if_pos rfl, if_pos rfl]; exact fail
end
