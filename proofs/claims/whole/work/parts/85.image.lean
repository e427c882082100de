/-! ===== pure: image, back ===== -/
section
/-- rows up to their own lengths -/
theorem MW.cg2 {σ σ' : MS} {W : Wd} (h : MW σ W) (hW : WW W) (h28 : sI σ' 0 28 = sI σ 0 28) (h51 : sI σ' 0 51 = sI σ 0 51) (hr : ∀ r, ((1 ≤ r ∧ r ≤ 17) ∨ r = 38) → ∀ j, (r = 1 → j < 10) → (r = 4 → j < 4) → ((r = 2 ∨ r = 3) → j < 5) → (((5 ≤ r ∧ r ≤ 7) ∨ r = 15) → j < 4) → (((8 ≤ r ∧ r ≤ 11) ∨ r = 16) → j < 6) → ((12 ≤ r ∧ r ≤ 14) → j < 10) → (r = 17 → j < 1) → (r = 38 → j < 380) → sI σ' r j = sI σ r j) : MW σ' W := by
  obtain ⟨⟨a1, ⟨l1, l2, l3, l4⟩, l5, l6, l7⟩, ⟨s1, s2, s3, s4, s5⟩, ⟨a4, a5, a6⟩, ⟨a7, a8, a9, a10⟩, a11, a12⟩ := h
  obtain ⟨⟨w1, w2, w3, w4, w5⟩, ⟨⟨⟨w6, w7, w8, _⟩, _⟩, _⟩, _⟩ := hW
  have q1 : ∀ j, j < 10 → sI σ' 1 j = sI σ 1 j := fun j hj => hr 1 (by omega) j (by omega) (by omega) (by omega) (by omega) (by omega) (by omega) (by omega) (by omega)
  have q2 : ∀ b j, (b = 2 ∨ b = 3) → j < 5 → sI σ' b j = sI σ b j := fun b j hb hj => hr b (by omega) j (by omega) (by omega) (by omega) (by omega) (by omega) (by omega) (by omega) (by omega)
  have q5 : ∀ b j, (b = 4 ∨ (5 ≤ b ∧ b ≤ 7) ∨ b = 15) → j < 4 → sI σ' b j = sI σ b j := fun b j hb hj => hr b (by omega) j (by omega) (by omega) (by omega) (by omega) (by omega) (by omega) (by omega) (by omega)
  have q8 : ∀ b j, ((8 ≤ b ∧ b ≤ 11) ∨ b = 16) → j < 6 → sI σ' b j = sI σ b j := fun b j hb hj => hr b (by omega) j (by omega) (by omega) (by omega) (by omega) (by omega) (by omega) (by omega) (by omega)
  have q12 : ∀ b j, (12 ≤ b ∧ b ≤ 14) → j < 10 → sI σ' b j = sI σ b j := fun b j hb hj => hr b (by omega) j (by omega) (by omega) (by omega) (by omega) (by omega) (by omega) (by omega) (by omega)
  have q17 : sI σ' 17 0 = sI σ 17 0 := hr 17 (by omega) 0 (by omega) (by omega) (by omega) (by omega) (by omega) (by omega) (by omega) (by omega)
  have q38 : ∀ j, j < 380 → sI σ' 38 j = sI σ 38 j := fun j hj => hr 38 (by omega) j (by omega) (by omega) (by omega) (by omega) (by omega) (by omega) (by omega) (by omega)
  refine ⟨⟨by rw [h28]; exact a1, ⟨by rw [q1 2 (by decide)]; exact l1, by rw [q1 3 (by decide)]; exact l2, by rw [q1 4 (by decide)]; exact l3, by rw [q1 0 (by decide)]; exact l4⟩, fun k hk => ?_, fun p hp => ?_, fun w hw => ?_⟩, ⟨fun w hw => ?_, fun p hp => ?_, by rw [q1 6 (by decide)]; exact s3, by rw [q1 1 (by decide)]; exact s4, by rw [q1 5 (by decide)]; exact s5⟩, ⟨fun p hp => by rw [q5 15 p (by omega) (by omega)]; exact a4 p hp, fun w hw => by rw [q8 16 w (by omega) (by omega)]; exact a5 w hw, by rw [q17]; exact a6⟩, ⟨by rw [q1 9 (by decide)]; exact a7, by rw [q1 8 (by decide)]; exact a8, by rw [q1 7 (by decide)]; exact a9, by rw [h51]; exact a10⟩, fun i hi => ?_, fun i hi => (a12 i hi).cg w7 w8 (by omega) q38⟩
  · rw [q2 2 k (by omega) (by omega), q2 3 k (by omega) (by omega)]; exact l5 k hk
  · rw [q5 5 p (by omega) (by omega), q5 6 p (by omega) (by omega), q5 7 p (by omega) (by omega)]; exact l6 p hp
  · rw [q8 8 w (by omega) (by omega), q8 11 w (by omega) (by omega)]; exact l7 w hw
  · rw [q8 9 w (by omega) (by omega), q8 10 w (by omega) (by omega)]; exact s1 w hw
  · rw [q5 4 p (by omega) (by omega)]; exact s2 p hp
  · rw [q12 12 i (by omega) (by omega), q12 13 i (by omega) (by omega), q12 14 i (by omega) (by omega)]; exact a11 i hi
/-- the class keeps an image in a world that lies at b -/
theorem img_core {k B b : Nat} {ow : Nat → Nat} {W : Wd} {Wi : Nat → Option Wd} {RR : List (List Cls)} {T : Nat → Nat} {len : Nat} {σ : MS} (hk : k < 4) (hR : RR.length ≤ 6) (hB : 56 ≤ sN σ ∧ sN σ ≤ B) (hBB : B + 80 ≤ 1000000) (h1 : sI σ 1 1 = nI len ∧ ∀ i, i < len → sI σ 2 i = nI (T i)) (h2 : sI σ 0 11 = nI RR.length ∧ ∀ r, r < RR.length → ∃ b, sR σ 21 r = some b ∧ 56 ≤ b ∧ RXc σ b (codesOf (RR.getD r [])) ∧ ow b = 10 + r ∧ ow (b + 1) = 10 + r) (h3 : XW ow 0 22 σ W) (h4 : ∀ k', k' < 4 → k' ≠ k → (Wi k' = none → sR σ 43 k' = none) ∧ ∀ V, Wi k' = some V → ∃ b, sR σ 43 k' = some b ∧ 56 ≤ b ∧ dRt σ b shWorld ∧ (∀ i, i < 21 → ow (b + i) = 50 + k') ∧ XW ow (1 + k') b σ V) (hW : WW W) (hb : sR σ 43 k = some b) (hb56 : 56 ≤ b) (hd : dRt σ b shWorld) (how : ∀ i, i < 21 → ow (b + i) = 50 + k) (hs : ∀ s, s < 20 → ∀ c, sR σ (b + 17) s = some c → 56 ≤ c ∧ dRt σ c shState ∧ ∀ i, i < 4 → ow (c + i) = 100 + 20 * (1 + k) + s) (hw : dRt σ 22 shWorld) :
    ∃ σ' ow', f_X10_copyFrom b 22 σ = some σ' ∧ sI σ' 35 5 = sI σ 35 5 ∧ (56 ≤ sN σ' ∧ sN σ' ≤ B + 80) ∧ (sI σ' 1 1 = nI len ∧ ∀ i, i < len → sI σ' 2 i = nI (T i)) ∧ (sI σ' 0 11 = nI RR.length ∧ ∀ r, r < RR.length → ∃ b, sR σ' 21 r = some b ∧ 56 ≤ b ∧ RXc σ' b (codesOf (RR.getD r [])) ∧ ow' b = 10 + r ∧ ow' (b + 1) = 10 + r) ∧ XW ow' 0 22 σ' W ∧ (∀ k', k' < 4 → (up1 Wi k (some W) k' = none → sR σ' 43 k' = none) ∧ ∀ V, up1 Wi k (some W) k' = some V → ∃ b, sR σ' 43 k' = some b ∧ 56 ≤ b ∧ dRt σ' b shWorld ∧ (∀ i, i < 21 → ow' (b + i) = 50 + k') ∧ XW ow' (1 + k') b σ' V) := by
  have hb21 : b + 21 ≤ sN σ := hd.1
  obtain ⟨σ', ow', c1, c2, ⟨c3, c3'⟩, c4, c5, c6, c7⟩ := x_copyWorld (a0 := b) (a1 := 22) (v0 := 1 + k) (v1 := 0) (σ := σ) h3 hW (by omega) (by omega) (by omega) hB.1 hd hw (fun i hi => Or.inr (by rw [how i hi]; omega)) (fun i hi => Or.inl (by omega)) hs
  have out : ∀ p, p < sN σ → ow p ≠ 50 + k → p < b ∨ b + 20 < p := fun p hp h => by
    by_cases z : b ≤ p ∧ p ≤ b + 20
    · have := how (p - b) (by omega)
      rw [show b + (p - b) = p by omega] at this
      exact absurd this h
    · omega
  have f56 : ∀ p, p < 56 → sI σ' p = sI σ p := fun p hp => c5 p (by omega) (by omega) (by omega)
  refine ⟨σ', ow', c1, by rw [f56 35 (by decide)], ⟨by omega, by omega⟩, ⟨by rw [f56 1 (by decide)]; exact h1.1, by rw [f56 2 (by decide)]; exact h1.2⟩, ⟨by rw [f56 0 (by decide)]; exact h2.1, fun r hr => ?_⟩, ?_, fun k' hk' => ⟨fun hn => ?_, fun V hV => ?_⟩⟩
  · obtain ⟨d, k1, k2, k3, k4, k5⟩ := h2.2 r hr
    obtain ⟨⟨q1, q2, q3⟩, q4, q5, q6⟩ := k3
    refine ⟨d, by rw [c6 21 (by omega) (by omega)]; exact k1, k2, ⟨⟨by omega, by rw [c4 _ (by omega)]; exact q2, by rw [c4 _ (by omega)]; exact q3⟩, by rw [c4 _ (by omega)]; exact q4, q5, ?_⟩, by rw [c7 _ (by omega)]; exact k4, by rw [c7 _ (by omega)]; exact k5⟩
    rw [c5 (d + 1) (by omega) (out _ (by omega) (by omega)) (by omega)]; exact q6
  · exact h3.fr (fun p q1 q2 => f56 p (by omega)) (c6 _ (by omega) (by omega)) c3 c4 (fun p q1 q2 q3 q4 => c5 p q2 (out p q2 (by omega)) (by omega)) c7
  · by_cases z : k' = k
    · subst z; rw [up1_s] at hn; cases hn
    · rw [up1_n _ _ z] at hn
      rw [c6 43 (by omega) (by omega)]; exact (h4 k' hk' z).1 hn
  · by_cases z : k' = k
    · subst z
      rw [up1_s] at hV
      injection hV with hV
      subst hV
      exact ⟨b, by rw [c6 43 (by omega) (by omega)]; exact hb, hb56, hd.fr c3 c4, fun i hi => by rw [c7 _ (by omega)]; exact how i hi, c2⟩
    · rw [up1_n _ _ z] at hV
      obtain ⟨d, k1, k2, k3, k4, k5⟩ := (h4 k' hk' z).2 V hV
      have hd21 : d + 21 ≤ sN σ := k3.1
      have hne : d + 17 ≠ b + 17 := fun e => by
        have e1 := k4 17 (by decide)
        have e2 := how 17 (by decide)
        rw [e] at e1
        omega
      refine ⟨d, by rw [c6 43 (by omega) (by omega)]; exact k1, k2, k3.fr c3 c4, fun i hi => by rw [c7 _ (by omega)]; exact k4 i hi, k5.fr (fun p q1 q2 => ?_) (c6 _ (by omega) hne) c3 c4 (fun p q1 q2 q3 q4 => c5 p q2 (out p q2 (by omega)) (by omega)) c7⟩
      have := k4 (p - d) (by omega)
      rw [show d + (p - d) = p by omega] at this
      exact c5 p (by omega) (out p (by omega) (by omega)) (by omega)
theorem nb01 {t : Nat} (h : t ≤ 1) : vp_nar .boolean (nI t) = nI t := by
  rcases (by omega : t = 0 ∨ t = 1) with e | e
  · subst e; decide
  · subst e; decide
theorem s_30 : StpS 30 := fun t a σx σm ht hI0 hsh => by
  have hI1 := hI0
  obtain ⟨ow, W, Wi, RR, T, len, h1, h2, h3⟩ := hI0
  have hW := h3.2.2.1.1
  have e5 : sI σx 35 5 = nI (wS W 3 5) := h1.2.2.2.1.2.2.1.2.2.2.2
  have e5m : sI σm 1 5 = nI (wS W 3 5) := h2.2.2.1.2.1.2.2.2.2
  have e28 : sI σm 0 28 = nI (wc W 0) := h2.2.2.1.1.1
  show ∃ r σx' σm', f_X11_image (a 1) σx = some (r, σx') ∧ f_X12_image (a 1) σm = some (r, σm') ∧ Inv (t + 1) σx' σm'
  unfold f_X11_image b_X11_image_0 b_X11_image_9 f_X12_image b_X12_image_0
  rcases m_in (a 1) (l := 0) (h := 3) 0 3 (by decide) (by decide) (by decide) (by decide) with ⟨g, h⟩ | ⟨k, g1, g2, ek, h⟩
  · refine ⟨-1, σx, σm, ?_, by rw [h]; rfl, hI1.up (by omega)⟩
    by_cases g0 : a 1 < 0
    · rw [if_pos g0]
    · rw [if_neg g0, if_neg]
      rcases g with g | g
      · exact absurd g g0
      · rw [Int32.lt_iff_toInt_lt] at g ⊢
        have u1 : (nI 3).toInt = 3 := by decide
        have u2 : (4 : Int32).toInt = 4 := by decide
        omega
  · rw [h, bnd, if_neg one_ne, ek, if_neg (nI_pos (by omega)), q_nl_lt (by decide) (by omega), if_pos (by omega), chk_t (in_n (show k < 4 by omega) (by decide)), chk_t (in_n (show k < 4 by omega) (by decide)), chk_t (in_n (show k < 4 by omega) (by decide)), ix_n (by omega)]
    -- the reference
    have en : vp_nar .boolean (1 : Int32) = 1 := by decide
    rw [en, sI_wIn _ _ _ _ (show (0 : Nat) ≠ 46 by decide), e28, nb01 hW.1.1]
    obtain ⟨σm1, m1, m2, m3, m4, m5, m6⟩ := m_image (k := k) (wI (wI σm 46 k 1) 47 k (nI (wc W 0))) (by omega)
    rw [m1, bnd, m3 1 (by decide) (by decide) (by decide), sI_wIn _ _ _ _ (show (1 : Nat) ≠ 47 by decide), sI_wIn _ _ _ _ (show (1 : Nat) ≠ 46 by decide), e5m]
    have rb : ∀ b, b ≠ 46 → b ≠ 47 → sI (wI (wI σm 46 k 1) 47 k (nI (wc W 0))) b = sI σm b := fun b q1 q2 => by rw [sI_wIn _ _ _ _ q2, sI_wIn _ _ _ _ q1]
    have hIM : IM W (up1 Wi k (some W)) RR T len σm1 := by
      obtain ⟨⟨a1, a2⟩, ⟨a3, a4, a5⟩, a6, a7⟩ := h2
      have r0 : ∀ j, j ≠ 62 → j ≠ 63 → sI σm1 0 j = sI σm 0 j := fun j q1 q2 => by rw [m2 j q1 q2, rb 0 (by decide) (by decide)]
      have rr : ∀ b, b ≠ 0 → b ≠ 45 → b ≠ 39 → b ≠ 46 → b ≠ 47 → sI σm1 b = sI σm b := fun b q0 q1 q2 q3 q4 => by rw [m3 b q0 q1 q2, rb b q3 q4]
      refine ⟨⟨by rw [r0 29 (by decide) (by decide)]; exact a1, by rw [rr 28 (by decide) (by decide) (by decide) (by decide) (by decide)]; exact a2⟩, ⟨by rw [r0 33 (by decide) (by decide)]; exact a3, by rw [r0 38 (by decide) (by decide)]; exact a4, fun r hr => (a5 r hr).fr (fun b q1 q2 => rr b (by omega) (by omega) (by omega) (by omega) (by omega))⟩, ?_, fun k' hk' => ⟨fun hn => ?_, fun V hV => ?_⟩⟩
      · exact a6.cg2 hW (r0 28 (by decide) (by decide)) (r0 51 (by decide) (by decide)) (fun r hr j _ _ _ _ _ _ _ _ => by rw [rr r (by omega) (by omega) (by omega) (by omega) (by omega)])
      · by_cases z : k' = k
        · subst z; rw [up1_s] at hn; cases hn
        · rw [up1_n _ _ z] at hn
          rw [m3 46 (by decide) (by decide) (by decide), sI_wIn _ _ _ _ (show (46 : Nat) ≠ 47 by decide), sI_wIk _ _ _ _ z]
          exact (a7 k' hk').1 hn
      · by_cases z : k' = k
        · subst z
          rw [up1_s] at hV
          injection hV with hV
          subst hV
          refine ⟨by rw [m3 46 (by decide) (by decide) (by decide), sI_wIn _ _ _ _ (show (46 : Nat) ≠ 47 by decide), sI_wIs], a6.cg2 hW ?_ ?_ (fun r hr j u1 u4 u2 u5 u8 u12 u17 u38 => ?_)⟩
          · show sI σm1 47 k' = _
            rw [m3 47 (by decide) (by decide) (by decide), sI_wIs, e28]
          · show sI σm1 45 (550 * k' + 26) = _
            rw [m5, rb 0 (by decide) (by decide)]
          · rw [mImg_r _ _ (by omega), m6 r hr j u1 u4 u2 u5 u8 u12 u17 u38, rb r (by omega) (by omega)]
        · rw [up1_n _ _ z] at hV
          obtain ⟨k1, k2⟩ := (a7 k' hk').2 V hV
          refine ⟨by rw [m3 46 (by decide) (by decide) (by decide), sI_wIn _ _ _ _ (show (46 : Nat) ≠ 47 by decide), sI_wIk _ _ _ _ z]; exact k1, k2.img (h3.2.2.2 k' V hk' hV).1 ?_ (fun j q1 q2 => ?_)⟩
          · rw [m3 47 (by decide) (by decide) (by decide), sI_wIk _ _ _ _ z, sI_wIn _ _ _ _ (show (47 : Nat) ≠ 46 by decide)]
          · rw [m4 j (by omega), rb 45 (by decide) (by decide)]
    have hOK : OKW W (up1 Wi k (some W)) RR T len := by
      refine ⟨h3.1, h3.2.1, h3.2.2.1, fun k' V hk' hV => ?_⟩
      by_cases z : k' = k
      · subst z
        rw [up1_s] at hV
        injection hV with hV
        subst hV
        exact h3.2.2.1
      · rw [up1_n _ _ z] at hV
        exact h3.2.2.2 k' V hk' hV
    obtain ⟨⟨x1, x1'⟩, x2, x3, x4, x5⟩ := h1
    cases hWi : Wi k with
    | some V =>
      obtain ⟨b, k1, k2, k3, k4, k5⟩ := (x5 k (by omega)).2 V hWi
      obtain ⟨np, y1, y2, y3, y4⟩ := k5.2.2.2.2.2
      obtain ⟨σ', ow', c1, c2, c3⟩ := img_core (k := k) (B := 56 + 105 * t) (by omega) h3.2.1.1 ⟨x1, x1'⟩ (by omega) x2 x3 x4 (fun k' hk' _ => x5 k' hk') hW k1 k2 k3 k4 y3 hsh.world
      refine ⟨nI (wS W 3 5), σ', σm1, ?_, rfl, ow', W, up1 Wi k (some W), RR, T, len, ⟨⟨c3.1.1, by have := c3.1.2; omega⟩, c3.2⟩, hIM, hOK⟩
      unfold b_X11_image_37
      rw [k1, onr_s, chk_t k3, chk_t k3, c1, bnd, c2, e5]
    | none =>
      have hnone := (x5 k (by omega)).1 hWi
      obtain ⟨σn, Rn, Fn, n1, n2, n3, n4⟩ := x_newWorld σx (by omega)
      have nN : sN σn = sN σx + 21 := n2.1
      have hdn : dRt σn (sN σx) shWorld := ⟨by rw [nN]; exact Nat.le_refl _, n2.2.2.1⟩
      obtain ⟨σ1, hσ⟩ : ∃ σ1, σ1 = wR σn 43 k (some (sN σx)) := ⟨_, rfl⟩
      have sS1 : ∀ p, p < sN σx → sS σ1 p = sS σx p := fun p hp => by rw [hσ]; exact (n2.2.1 p hp).1
      have sI1 : ∀ p, p < sN σx → sI σ1 p = sI σx p := fun p hp => by rw [hσ, sI_wR]; exact (n2.2.1 p hp).2.1
      have sR1 : ∀ p, p < sN σx → p ≠ 43 → sR σ1 p = sR σx p := fun p hp hq => by rw [hσ, sR_wRn _ _ _ hq]; exact (n2.2.1 p hp).2.2
      have sN1 : sN σ1 = sN σx + 21 := by rw [hσ]; exact nN
      have hd1 : dRt σ1 (sN σx) shWorld := by rw [hσ]; exact hdn
      have hfr : ∀ p, p < sN σx → (if p < sN σx then ow p else 50 + k) = ow p := fun p hp => if_pos hp
      obtain ⟨σ', ow', c1, c2, c3⟩ := img_core (k := k) (B := 56 + 105 * t + 21) (b := sN σx) (ow := fun p => if p < sN σx then ow p else 50 + k) (Wi := Wi) (RR := RR) (T := T) (len := len) (W := W) (σ := σ1) (by omega) h3.2.1.1 ⟨by omega, by omega⟩ (by omega) ⟨by rw [sI1 1 (by omega)]; exact x2.1, by rw [sI1 2 (by omega)]; exact x2.2⟩ ⟨by rw [sI1 0 (by omega)]; exact x3.1, fun r hr => by
          obtain ⟨d, k1, k2, k3, k4, k5⟩ := x3.2 r hr
          obtain ⟨⟨q1, q2, q3⟩, q4, q5, q6⟩ := k3
          exact ⟨d, by rw [sR1 21 (by omega) (by decide)]; exact k1, k2, ⟨⟨by omega, by rw [sS1 _ (by omega)]; exact q2, by rw [sS1 _ (by omega)]; exact q3⟩, by rw [sS1 _ (by omega)]; exact q4, q5, by rw [sI1 _ (by omega)]; exact q6⟩, (hfr _ (by omega)).trans k4, (hfr _ (by omega)).trans k5⟩⟩ (x4.fr (fun p q1 q2 => sI1 p (by omega)) (sR1 _ (by omega) (by decide)) (by omega) sS1 (fun p _ q2 _ _ => sI1 p q2) hfr) (fun k' hk' hz => ⟨fun hn => by
          rw [hσ, sR_wRk _ _ _ hz, (n2.2.1 43 (by omega)).2.2]; exact (x5 k' hk').1 hn, fun V hV => by
          obtain ⟨d, k1, k2, k3, k4, k5⟩ := (x5 k' hk').2 V hV
          have hd21 : d + 21 ≤ sN σx := k3.1
          exact ⟨d, by rw [hσ, sR_wRk _ _ _ hz, (n2.2.1 43 (by omega)).2.2]; exact k1, k2, k3.fr (by omega) sS1, fun i hi => (hfr _ (by omega)).trans (k4 i hi), k5.fr (fun p q1 q2 => sI1 p (by omega)) (sR1 _ (by omega) (by omega)) (by omega) sS1 (fun p _ q2 _ _ => sI1 p q2) hfr⟩⟩) hW (by rw [hσ, sR_wRs]) x1 hd1 (fun i hi => if_neg (by omega)) (fun s hs c hc => by
          rw [hσ, sR_wRn _ _ _ (by omega), n3 s] at hc
          cases hc) (hsh.world.fr (by omega) sS1)
      refine ⟨nI (wS W 3 5), σ', σm1, ?_, rfl, ow', W, up1 Wi k (some W), RR, T, len, ⟨⟨c3.1.1, by have := c3.1.2; omega⟩, c3.2⟩, hIM, hOK⟩
      have tn : tfd σn (sN σx) (10 + 10, 0) := ⟨by omega, hdn.2 0 (by decide)⟩
      unfold b_X11_image_37
      rw [hnone, onr_n, chk_t (by omega), n1, bnd, chk_t tn, chk_t (in_n (show k < 4 by omega) (by decide)), ← hσ, chk_t hd1, c1, bnd, c2, sI1 35 (by omega), e5]
theorem s_31 : StpS 31 := fun t a σx σm ht hI0 hsh => by
  have hI1 := hI0
  obtain ⟨ow, W, Wi, RR, T, len, h1, h2, h3⟩ := hI0
  have hW := h3.2.2.1.1
  show ∃ r σx' σm', f_X11_back (a 1) σx = some (r, σx') ∧ f_X12_back (a 1) σm = some (r, σm') ∧ Inv (t + 1) σx' σm'
  unfold f_X11_back b_X11_back_0 b_X11_back_18 f_X12_back b_X12_back_0 b_X12_back_21
  rcases m_in (a 1) (l := 0) (h := 3) 0 3 (by decide) (by decide) (by decide) (by decide) with ⟨g, h⟩ | ⟨k, g1, g2, ek, h⟩
  · refine ⟨-1, σx, σm, ?_, by rw [h]; rfl, hI1.up (by omega)⟩
    by_cases g0 : a 1 < 0
    · rw [if_pos g0]
    · rw [if_neg g0, if_pos]
      rcases g with g | g
      · exact absurd g g0
      · rw [Int32.lt_iff_toInt_lt] at g
        rw [Int32.le_iff_toInt_le]
        have u1 : (nI 3).toInt = 3 := by decide
        have u2 : (4 : Int32).toInt = 4 := by decide
        omega
  · have bk : inb (nI k) 4 := in_n (show k < 4 by omega) (by decide)
    rw [h, bnd, if_neg one_ne, ek, if_neg (nI_pos (by omega)), q_ln_le (by decide) (by omega), if_neg (by omega), chk_t bk, chk_t bk, ix_n (by omega)]
    cases hWi : Wi k with
    | none =>
      rw [(h1.2.2.2.2 k (by omega)).1 hWi, onr_n, chk_t bk, (h2.2.2.2 k (by omega)).1 hWi, if_pos rfl]
      exact ⟨-1, σx, σm, rfl, rfl, hI1.up (by omega)⟩
    | some V =>
      obtain ⟨b, k1, k2, k3, k4, k5⟩ := (h1.2.2.2.2 k (by omega)).2 V hWi
      obtain ⟨l1, l2⟩ := (h2.2.2.2 k (by omega)).2 V hWi
      obtain ⟨hV, hV4⟩ := h3.2.2.2 k V (by omega) hWi
      have hb21 : b + 21 ≤ sN σx := k3.1
      obtain ⟨np, y1, y2, y3, y4⟩ := h1.2.2.2.1.2.2.2.2.2
      obtain ⟨σ', ow', c1, c2, ⟨c3, c3'⟩, c4, c5, c6, c7⟩ := x_copyWorld (a0 := 22) (a1 := b) (v0 := 0) (v1 := 1 + k) (σ := σx) k5 hV (by omega) (by omega) (by have := h1.1.2; omega) h1.1.1 hsh.world k3 (fun i hi => Or.inl (by omega)) (fun i hi => Or.inr (by rw [k4 i hi]; omega)) y3
      have e47 : sI σm 47 k = nI (wc V 0) := l2.1.1
      have c47 : sI σm 47 k = 0 ∨ sI σm 47 k = 1 := by
        rw [e47]
        rcases (by have := hV.1.1; omega : wc V 0 = 0 ∨ wc V 0 = 1) with e | e
        · left; rw [e]; rfl
        · right; rw [e]; rfl
      obtain ⟨σm1, m1, m2, m3, m4, m5⟩ := m_backI (k := k) (wI σm 0 28 (sI σm 47 k)) (by omega)
      have rb : ∀ b, b ≠ 0 → sI (wI σm 0 28 (sI σm 47 k)) b = sI σm b := fun b q => sI_wIn _ _ _ _ q
      have hMW : MW σm1 V := by
        refine l2.cg2 hV ?_ ?_ (fun r hr j u1 u4 u2 u5 u8 u12 u17 u38 => ?_)
        · rw [m2 28 (by decide) (by decide) (by decide), sI_wIs]; rfl
        · rw [m4, rb 45 (by decide)]; rfl
        · rw [m5 r hr j u1 u4 u2 u5 u8 u12 u17 u38, rb 45 (by decide), mImg_r _ _ (by omega)]
      have e5 : sI σ' 35 5 = nI (wS V 3 5) := c2.2.2.1.2.2.2.2
      have e5m : sI σm1 1 5 = nI (wS V 3 5) := hMW.2.1.2.2.2.2
      rw [k1, onr_s, chk_t k3, chk_t bk, onr_s, chk_t k3, c1, bnd, l1, if_neg one_ne, chk_t bk, chk_t c47, m1, bnd, e5, e5m]
      refine ⟨_, _, _, rfl, rfl, ow', V, Wi, RR, T, len, h1.w h3.2.1.1 c2 c3 (by have := h1.1.2; omega) c4 (fun d q1 q2 q3 => c6 d q3 (by omega)) (c5 1 (by omega) (by omega) (by omega)) (c5 2 (by omega) (by omega) (by omega)) (by rw [c5 0 (by omega) (by omega) (by omega)]) (fun p q1 q2 q3 => c5 p q2 (by omega) (by omega)) c7, h2.w (fun k V hk hV => (h3.2.2.2 k V hk hV).1) hMW (fun j hj => by rw [m2 j (by omega) (by omega) (by omega), sI_wIk _ _ _ _ (by omega)]) (fun b hb => by rw [m3 b (by omega), rb b (by omega)]) (fun j _ => by rw [m3 45 (by omega), rb 45 (by decide)]), h3.1, h3.2.1, ⟨hV, hV4⟩, h3.2.2.2⟩
end
