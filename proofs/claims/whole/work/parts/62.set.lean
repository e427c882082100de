/-! ===== pure: force, end, seed, log ===== -/
section
def wSet (W : Wd) (i v : Nat) : Wd := (up1 W.1 i v, W.2)
theorem wSet_s (W : Wd) (i v : Nat) : wc (wSet W i v) i = v := up1_s _ _ _
theorem wSet_n (W : Wd) {i j : Nat} (v : Nat) (h : j ≠ i) : wc (wSet W i v) j = wc W j := up1_n _ _ h
/-- the world changes, all else stays -/
theorem IX.w {t t' : Nat} {ow ow' : Nat → Nat} {W W' : Wd} {Wi : Nat → Option Wd} {RR : List (List Cls)} {T : Nat → Nat} {len : Nat} {σ σ' : MS} (h : IX t ow W Wi RR T len σ) (hRR : RR.length ≤ 6) (hx : XW ow' 0 22 σ' W') (hN : sN σ ≤ sN σ') (hN' : sN σ' ≤ 56 + 105 * t') (hS : ∀ p, p < sN σ → sS σ' p = sS σ p) (hR : ∀ b, b ≠ 44 → b ≠ 39 → b < sN σ → sR σ' b = sR σ b) (h1 : sI σ' 1 = sI σ 1) (h2 : sI σ' 2 = sI σ 2) (h11 : sI σ' 0 11 = sI σ 0 11) (hd : ∀ p, 56 ≤ p → p < sN σ → (ow p < 100 ∨ 120 ≤ ow p) → sI σ' p = sI σ p) (how : ∀ p, p < sN σ → ow' p = ow p) : IX t' ow' W' Wi RR T len σ' := by
  obtain ⟨⟨a1, a2⟩, ⟨a3, a4⟩, ⟨a5, a6⟩, a7, a8⟩ := h
  refine ⟨⟨by omega, hN'⟩, ⟨by rw [h1]; exact a3, by rw [h2]; exact a4⟩, ⟨by rw [h11]; exact a5, fun r hr => ?_⟩, hx, fun k hk => ⟨fun hw => ?_, fun V hV => ?_⟩⟩
  · obtain ⟨b, k1, k2, k3, k4, k5⟩ := a6 r hr
    obtain ⟨⟨q1, q2, q3⟩, q4, q5, q6⟩ := k3
    refine ⟨b, by rw [hR 21 (by decide) (by decide) (by omega)]; exact k1, k2, ⟨⟨by omega, by rw [hS _ (by omega)]; exact q2, by rw [hS _ (by omega)]; exact q3⟩, by rw [hS _ (by omega)]; exact q4, q5, ?_⟩, by rw [how _ (by omega)]; exact k4, by rw [how _ (by omega)]; exact k5⟩
    rw [hd (b + 1) (by omega) (by omega) ?_]
    · exact q6
    · rw [k5]; omega
  · rw [hR 43 (by decide) (by decide) (by omega)]; exact (a8 k hk).1 hw
  · obtain ⟨b, k1, k2, k3, k4, k5⟩ := (a8 k hk).2 V hV
    have hb21 : b + 21 ≤ sN σ := k3.1
    refine ⟨b, by rw [hR 43 (by decide) (by decide) (by omega)]; exact k1, k2, k3.fr hN hS, fun i hi => by rw [how _ (by omega)]; exact k4 i hi, ?_⟩
    refine k5.fr (fun c q1 q2 => ?_) (hR _ (by omega) (by omega) (by omega)) hN hS (fun p q1 q2 q3 q4 => hd p q1 q2 (Or.inr (by omega))) how
    have := k4 (c - b) (by omega)
    rw [show b + (c - b) = c by omega] at this
    exact hd c (by omega) (by omega) (Or.inl (by omega))
theorem IM.w {W W' : Wd} {Wi : Nat → Option Wd} {RR : List (List Cls)} {T : Nat → Nat} {len : Nat} {σ σ' : MS} (h : IM W Wi RR T len σ) (hO : ∀ k V, k < 4 → Wi k = some V → WW V) (hm : MW σ' W') (h0 : ∀ j, (j = 29 ∨ j = 33 ∨ j = 38) → sI σ' 0 j = sI σ 0 j) (hr : ∀ b, (28 ≤ b ∧ b ≤ 34) ∨ b = 46 ∨ b = 47 → sI σ' b = sI σ b) (h45 : ∀ j, j < 2200 → sI σ' 45 j = sI σ 45 j) : IM W' Wi RR T len σ' := by
  obtain ⟨⟨a1, a2⟩, ⟨a3, a4, a5⟩, a6, a7⟩ := h
  refine ⟨⟨by rw [h0 29 (by omega)]; exact a1, by rw [hr 28 (by omega)]; exact a2⟩, ⟨by rw [h0 33 (by omega)]; exact a3, by rw [h0 38 (by omega)]; exact a4, fun r hr2 => (a5 r hr2).fr (fun b q1 q2 => hr b (by omega))⟩, hm, fun k hk => ⟨fun hw => by rw [hr 46 (by omega)]; exact (a7 k hk).1 hw, fun V hV => ?_⟩⟩
  obtain ⟨k1, k2⟩ := (a7 k hk).2 V hV
  exact ⟨by rw [hr 46 (by omega)]; exact k1, k2.img (hO k V hk hV) (by rw [hr 47 (by omega)]) (fun j q1 q2 => h45 j (by omega))⟩
/-- a number of the class's world changes -/
theorem XW.num {ow : Nat → Nat} {σ : MS} {W : Wd} (h : XW ow 0 22 σ W) {i k v : Nat} {x : Int32} (hik : (i = 4 ∧ k = 9 ∧ x = hI v) ∨ (i = 5 ∧ k = 10 ∧ x = nI v) ∨ (i = 6 ∧ k = 8 ∧ x = nI v ∧ v ≤ wc W 6)) : XW ow 0 22 (wI σ 22 k x) (wSet W i v) := by
  obtain ⟨⟨h1, h2⟩, h3, h4, ⟨h5, h6, h7, h8⟩, h9, np, g1, g2, g3, g4⟩ := h
  have hn : ∀ b, b ≠ 22 → sI (wI σ 22 k x) b = sI σ b := fun b hb => sI_wIn _ _ _ _ hb
  have c : ∀ j, j ≠ 4 → j ≠ 5 → j ≠ 6 → wc (wSet W i v) j = wc W j := fun j q1 q2 q3 => wSet_n _ _ (by omega)
  refine ⟨⟨by rw [hn _ (by decide), c 0 (by decide) (by decide) (by decide)]; exact h1, ?_⟩, h3.fr (fun b q1 q2 => hn b (by omega)), h4.fr (fun b q1 q2 => hn b (by omega)), ?_, ?_, np, g1, ?_, ?_, ?_⟩
  · rw [c 1 (by decide) (by decide) (by decide), c 2 (by decide) (by decide) (by decide), c 3 (by decide) (by decide) (by decide)]
    exact h2.fr (fun b q1 q2 => hn b (by omega))
  · rcases hik with ⟨rfl, rfl, rfl⟩ | ⟨rfl, rfl, rfl⟩ | ⟨rfl, rfl, rfl, hv⟩
    · exact ⟨by rw [sI_wIs, wSet_s], by rw [sI_wIk _ _ _ _ (by decide), wSet_n _ _ (by decide)]; exact h6, by rw [sI_wIk _ _ _ _ (by decide), wSet_n _ _ (by decide)]; exact h7, by rw [sI_wIk _ _ _ _ (by decide), wSet_n _ _ (by decide)]; exact h8⟩
    · exact ⟨by rw [sI_wIk _ _ _ _ (by decide), wSet_n _ _ (by decide)]; exact h5, by rw [sI_wIs, wSet_s], by rw [sI_wIk _ _ _ _ (by decide), wSet_n _ _ (by decide)]; exact h7, by rw [sI_wIk _ _ _ _ (by decide), wSet_n _ _ (by decide)]; exact h8⟩
    · exact ⟨by rw [sI_wIk _ _ _ _ (by decide), wSet_n _ _ (by decide)]; exact h5, by rw [sI_wIk _ _ _ _ (by decide), wSet_n _ _ (by decide)]; exact h6, by rw [sI_wIs, wSet_s], by rw [sI_wIk _ _ _ _ (by decide), wSet_n _ _ (by decide)]; exact h8⟩
  · intro j hj
    rw [hn _ (by decide), hn _ (by decide), hn _ (by decide)]
    refine h9 j ?_
    rcases hik with ⟨rfl, rfl, rfl⟩ | ⟨rfl, rfl, rfl⟩ | ⟨rfl, rfl, rfl, hv⟩
    · rw [wSet_n _ _ (by decide)] at hj; exact hj
    · rw [wSet_n _ _ (by decide)] at hj; exact hj
    · rw [wSet_s] at hj; omega
  · rw [sI_wIk _ _ _ _ (by omega)]; exact g2
  · exact fun s hs b hb => g3 s hs b hb
  · intro j hj
    rw [c 7 (by decide) (by decide) (by decide)] at hj
    obtain ⟨b, q1, q2⟩ := g4 j hj
    have := (g3 _ (Nat.mod_lt _ (by decide)) b q1).1
    exact ⟨b, q1, q2.fr (fun p _ _ => hn p (by omega))⟩
theorem MW.num {σ : MS} {W : Wd} (h : MW σ W) (hW : WW W) {i k v : Nat} {x : Int32} (hik : (i = 4 ∧ k = 9 ∧ x = hI v) ∨ (i = 5 ∧ k = 8 ∧ x = nI v) ∨ (i = 6 ∧ k = 7 ∧ x = nI v ∧ v ≤ wc W 6)) : MW (wI σ 1 k x) (wSet W i v) := by
  obtain ⟨⟨h1, h2⟩, h3, ⟨h4, h5, h6⟩, ⟨h7, h8, h9, h10⟩, h11, h12⟩ := h
  obtain ⟨⟨w1, w2, w3, w4, w5⟩, ⟨⟨⟨w6, w7, w8, _⟩, _⟩, _⟩, _⟩ := hW
  have hn : ∀ b, b ≠ 1 → sI (wI σ 1 k x) b = sI σ b := fun b hb => sI_wIn _ _ _ _ hb
  have hk : ∀ j, j < 7 → sI (wI σ 1 k x) 1 j = sI σ 1 j := fun j hj => sI_wIk _ _ _ _ (by omega)
  have c : ∀ j, j ≠ 4 → j ≠ 5 → j ≠ 6 → wc (wSet W i v) j = wc W j := fun j q1 q2 q3 => wSet_n _ _ (by omega)
  have c1 := c 1 (by decide) (by decide) (by decide)
  have c2 := c 2 (by decide) (by decide) (by decide)
  have c3 := c 3 (by decide) (by decide) (by decide)
  have c7 := c 7 (by decide) (by decide) (by decide)
  refine ⟨⟨by rw [hn _ (by decide), c 0 (by decide) (by decide) (by decide)]; exact h1, ?_⟩, ?_, ?_, ?_, ?_, ?_⟩
  · rw [c1, c2, c3]
    obtain ⟨⟨a1, a2, a3, a4⟩, a5, a6, a7⟩ := h2
    exact ⟨⟨by rw [hk 2 (by decide)]; exact a1, by rw [hk 3 (by decide)]; exact a2, by rw [hk 4 (by decide)]; exact a3, by rw [hk 0 (by decide)]; exact a4⟩, fun q hq => by rw [hn 2 (by decide), hn 3 (by decide)]; exact a5 q hq, fun q hq => by rw [hn 5 (by decide), hn 6 (by decide), hn 7 (by decide)]; exact a6 q hq, fun q hq => by rw [hn 8 (by decide), hn 11 (by decide)]; exact a7 q hq⟩
  · rw [c2, c3]
    obtain ⟨a1, a2, a3, a4, a5⟩ := h3
    exact ⟨fun q hq => by rw [hn 9 (by decide), hn 10 (by decide)]; exact a1 q hq, fun q hq => by rw [hn 4 (by decide)]; exact a2 q hq, by rw [hk 6 (by decide)]; exact a3, by rw [hk 1 (by decide)]; exact a4, by rw [hk 5 (by decide)]; exact a5⟩
  · rw [c2, c3, hn 15 (by decide), hn 16 (by decide), hn 17 (by decide)]; exact ⟨h4, h5, h6⟩
  · rcases hik with ⟨rfl, rfl, rfl⟩ | ⟨rfl, rfl, rfl⟩ | ⟨rfl, rfl, rfl, hv⟩
    · exact ⟨by rw [sI_wIs, wSet_s], by rw [sI_wIk _ _ _ _ (by decide), wSet_n _ _ (by decide)]; exact h8, by rw [sI_wIk _ _ _ _ (by decide), wSet_n _ _ (by decide)]; exact h9, by rw [hn 0 (by decide), wSet_n _ _ (by decide)]; exact h10⟩
    · exact ⟨by rw [sI_wIk _ _ _ _ (by decide), wSet_n _ _ (by decide)]; exact h7, by rw [sI_wIs, wSet_s], by rw [sI_wIk _ _ _ _ (by decide), wSet_n _ _ (by decide)]; exact h9, by rw [hn 0 (by decide), wSet_n _ _ (by decide)]; exact h10⟩
    · exact ⟨by rw [sI_wIk _ _ _ _ (by decide), wSet_n _ _ (by decide)]; exact h7, by rw [sI_wIk _ _ _ _ (by decide), wSet_n _ _ (by decide)]; exact h8, by rw [sI_wIs, wSet_s], by rw [hn 0 (by decide), wSet_n _ _ (by decide)]; exact h10⟩
  · intro j hj
    rw [hn _ (by decide), hn _ (by decide), hn _ (by decide)]
    refine h11 j ?_
    rcases hik with ⟨rfl, rfl, rfl⟩ | ⟨rfl, rfl, rfl⟩ | ⟨rfl, rfl, rfl, hv⟩
    · rw [wSet_n _ _ (by decide)] at hj; exact hj
    · rw [wSet_n _ _ (by decide)] at hj; exact hj
    · rw [wSet_s] at hj; omega
  · intro j hj
    rw [c7] at hj ⊢
    rw [c2, c3]
    exact (h12 j hj).cg w7 w8 (by omega) (fun q _ => by rw [hn 38 (by decide)])
theorem WW.num {W : Wd} (h : WW W) {i v : Nat} (hv : (i = 4 ∧ v ≤ 6) ∨ (i = 5 ∧ v < 2 ^ 31) ∨ (i = 6 ∧ v ≤ wc W 6)) : WW (wSet W i v) := by
  obtain ⟨⟨w1, w2, w3, w4, w5⟩, h2, h3, h4, h5, h6⟩ := h
  have c : ∀ j, j ≠ 4 → j ≠ 5 → j ≠ 6 → wc (wSet W i v) j = wc W j := fun j q1 q2 q3 => wSet_n _ _ (by omega)
  have c0 := c 0 (by decide) (by decide) (by decide)
  have c1 := c 1 (by decide) (by decide) (by decide)
  have c2 := c 2 (by decide) (by decide) (by decide)
  have c3 := c 3 (by decide) (by decide) (by decide)
  have c7 := c 7 (by decide) (by decide) (by decide)
  unfold WW
  rw [c0, c1, c2, c3, c7]
  refine ⟨⟨w1, ?_, ?_, ?_, w5⟩, h2, h3, h4, h5, fun j hj => h6 j ?_⟩
  · by_cases e : i = 4
    · subst e; rw [wSet_s]; omega
    · rw [wSet_n _ _ (fun q => e q.symm)]; exact w2
  · by_cases e : i = 5
    · subst e; rw [wSet_s]; omega
    · rw [wSet_n _ _ (fun q => e q.symm)]; exact w3
  · by_cases e : i = 6
    · subst e; rw [wSet_s]; omega
    · rw [wSet_n _ _ (fun q => e q.symm)]; exact w4
  · by_cases e : i = 6
    · subst e; rw [wSet_s] at hj; omega
    · rw [wSet_n _ _ (fun q => e q.symm)] at hj; exact hj
/-- one number of both worlds -/
theorem Inv.num {t : Nat} {ow : Nat → Nat} {W : Wd} {Wi : Nat → Option Wd} {RR : List (List Cls)} {T : Nat → Nat} {len : Nat} {σx σm : MS} (hx : IX t ow W Wi RR T len σx) (hm : IM W Wi RR T len σm) (ho : OKW W Wi RR T len) {i kx km v : Nat} {x : Int32} (h1 : (i = 4 ∧ kx = 9 ∧ x = hI v) ∨ (i = 5 ∧ kx = 10 ∧ x = nI v) ∨ (i = 6 ∧ kx = 8 ∧ x = nI v ∧ v ≤ wc W 6)) (h2 : (i = 4 ∧ km = 9 ∧ x = hI v) ∨ (i = 5 ∧ km = 8 ∧ x = nI v) ∨ (i = 6 ∧ km = 7 ∧ x = nI v ∧ v ≤ wc W 6)) (h3 : (i = 4 ∧ v ≤ RR.length) ∨ (i = 5 ∧ v < 2 ^ 31) ∨ (i = 6 ∧ v ≤ wc W 6)) : Inv (t + 1) (wI σx 22 kx x) (wI σm 1 km x) := by
  refine ⟨ow, wSet W i v, Wi, RR, T, len, hx.w ho.2.1.1 (hx.2.2.2.1.num h1) (Nat.le_refl _) (by have := hx.1.2; show sN σx ≤ _; omega) (fun _ _ => rfl) (fun _ _ _ _ => rfl) (sI_wIn _ _ _ _ (by decide)) (sI_wIn _ _ _ _ (by decide)) (by rw [sI_wIn _ _ _ _ (by decide)]) (fun p hp _ _ => sI_wIn _ _ _ _ (by omega)) (fun _ _ => rfl), hm.w (fun k V hk hV => (ho.2.2.2 k V hk hV).1) (hm.2.2.1.num ho.2.2.1.1 h2) (fun j _ => by rw [sI_wIn _ _ _ _ (by decide)]) (fun b hb => sI_wIn _ _ _ _ (by omega)) (fun j _ => by rw [sI_wIn _ _ _ _ (by decide)]), ho.1, ho.2.1, ⟨ho.2.2.1.1.num ?_, ?_⟩, ho.2.2.2⟩
  · have := ho.2.1.1
    omega
  · by_cases e : i = 4
    · subst e; rw [wSet_s]; omega
    · rw [wSet_n _ _ (fun q => e q.symm)]; exact ho.2.2.1.2
theorem s_4 : StpK 4 := fun t a σx σm _ hI0 => by
  have hI1 := hI0
  obtain ⟨ow, W, Wi, RR, T, len, h1, h2, h3⟩ := hI0
  have hR := h3.2.1.1
  have hf := h3.2.2.1.2
  show ∃ r σx' σm', f_X11_force (a 1) σx = some (r, σx') ∧ f_X12_force (a 1) σm = some (r, σm') ∧ Inv (t + 1) σx' σm'
  unfold f_X11_force b_X11_force_0 b_X11_force_13 f_X12_force b_X12_force_0
  rw [h1.2.2.1.1, h2.2.1.1]
  have e0 : (-1 : Int64) = (-1 : Int32).toInt64 := by decide
  have eR : (nI RR.length - 1).toInt = (RR.length : Int) - 1 := by
    rw [Int32.toInt_sub, nI_toInt (by omega), show (1 : Int32).toInt = 1 from by decide]
    exact Int.bmod_eq_of_le (by omega) (by omega)
  have em : (-1 : Int32).toInt = -1 := by decide
  rw [e0, m_in_gen, bnd]
  by_cases hlo : a 1 < -1
  · exact ⟨-2, σx, σm, by rw [if_pos hlo], by rw [if_pos (Or.inl hlo)]; rfl, hI1.up (by omega)⟩
  · rw [if_neg hlo]
    by_cases hhi : a 1 < nI RR.length
    · have hni : ¬ (nI RR.length - 1 < a 1) := by
        rw [Int32.lt_iff_toInt_lt, eR]
        rw [Int32.lt_iff_toInt_lt, nI_toInt (by omega)] at hhi
        omega
      rw [if_pos hhi, if_neg (show ¬ (a 1 < -1 ∨ nI RR.length - 1 < a 1) from fun q => q.elim hlo hni), if_neg one_ne]
      obtain ⟨v, hv, ev⟩ : ∃ v, v ≤ RR.length ∧ a 1 = hI v := by
        by_cases h0 : a 1 < 0
        · refine ⟨0, by omega, ?_⟩
          rw [hI_0]
          apply Int32.toInt_inj.mp
          rw [Int32.lt_iff_toInt_lt] at h0 hlo
          have : (0 : Int32).toInt = 0 := by decide
          omega
        · obtain ⟨j, hj, e⟩ := nI_of h0
          rw [e, nI_ltI hj (by omega)] at hhi
          exact ⟨j + 1, by omega, by rw [hI_s]; exact e⟩
      refine ⟨hI (wc W 4), wI σx 22 9 (a 1), wI σm 1 9 (a 1), by rw [h1.2.2.2.1.2.2.2.1.1], by rw [h2.2.2.1.2.2.2.1.1], ?_⟩
      exact Inv.num h1 h2 h3 (Or.inl ⟨rfl, rfl, ev⟩) (Or.inl ⟨rfl, rfl, ev⟩) (Or.inl ⟨rfl, hv⟩)
    · have hni : nI RR.length - 1 < a 1 := by
        rw [Int32.lt_iff_toInt_lt, eR]
        rw [Int32.lt_iff_toInt_lt, nI_toInt (by omega)] at hhi
        omega
      exact ⟨-2, σx, σm, by rw [if_neg hhi], by rw [if_pos (Or.inr hni)]; rfl, hI1.up (by omega)⟩
theorem s_27 : StpK 27 := fun t a σx σm _ hI0 => by
  have hI1 := hI0
  obtain ⟨ow, W, Wi, RR, T, len, h1, h2, h3⟩ := hI0
  show ∃ r σx' σm', f_X11_seed (a 1) σx = some (r, σx') ∧ f_X12_seed (a 1) σm = some (r, σm') ∧ Inv (t + 1) σx' σm'
  unfold f_X11_seed b_X11_seed_0 f_X12_seed b_X12_seed_0
  by_cases h : a 1 < 0
  · exact ⟨-1, σx, σm, by first | rw [if_pos h] | rw [if_neg (Int32.not_le.mpr h)], by first | rw [if_pos h] | rw [if_neg (Int32.not_le.mpr h)], hI1.up (by omega)⟩
  · obtain ⟨v, hv, ev⟩ := nI_of h
    refine ⟨nI (wc W 5), wI σx 22 10 (a 1), wI σm 1 8 (a 1), ?_, ?_, Inv.num h1 h2 h3 (Or.inr (Or.inl ⟨rfl, rfl, ev⟩)) (Or.inr (Or.inl ⟨rfl, rfl, ev⟩)) (Or.inr (Or.inl ⟨rfl, hv⟩))⟩
    · rw [h1.2.2.2.1.2.2.2.1.2.1]; first | rw [if_neg h] | rw [if_pos (Int32.not_lt.mp h)]
    · rw [h2.2.2.1.2.2.2.1.2.1]; first | rw [if_neg h] | rw [if_pos (Int32.not_lt.mp h)]
theorem s_1 : StpK 1 := fun t a σx σm _ hI0 => by
  have hI1 := hI0
  obtain ⟨ow, W, Wi, RR, T, len, h1, h2, h3⟩ := hI0
  have hl := h3.1.1
  show ∃ r σx' σm', f_X11_end (a 1) σx = some (r, σx') ∧ f_X12_end (a 1) σm = some (r, σm') ∧ Inv (t + 1) σx' σm'
  unfold f_X11_end b_X11_end_0 b_X11_end_15 f_X12_end b_X12_end_0 b_X12_end_12
  rw [h1.2.1.1, h2.1.1]
  by_cases hlo : a 1 < 0
  · exact ⟨-1, σx, σm, by rw [if_pos hlo], by rw [if_pos hlo], hI1.up (by omega)⟩
  · obtain ⟨v, hv, ev⟩ := nI_of hlo
    rw [if_neg hlo, if_neg hlo, ev, q_le hv (by omega), q_le hv (by omega)]
    by_cases hh : v ≤ len
    · refine ⟨nI v, wI σx 1 1 (nI v), wI σm 0 29 (nI v), by rw [if_pos hh], by rw [if_pos hh], ow, W, Wi, RR, T, v, ?_, ?_, ⟨by omega, fun i hi => h3.1.2 i (by omega)⟩, h3.2⟩
      · obtain ⟨⟨a1, a2⟩, ⟨a3, a4⟩, ⟨a5, a6⟩, a7, a8⟩ := h1
        have hn : ∀ b, b ≠ 1 → sI (wI σx 1 1 (nI v)) b = sI σx b := fun b hb => sI_wIn _ _ _ _ hb
        refine ⟨⟨a1, by show sN σx ≤ _; omega⟩, ⟨sI_wIs _ _ _ _, fun i hi => by rw [hn 2 (by decide)]; exact a4 i (by omega)⟩, ⟨by rw [hn 0 (by decide)]; exact a5, fun r hr => ?_⟩, a7.fr (fun b q1 q2 => hn b (by omega)) rfl (Nat.le_refl _) (fun _ _ => rfl) (fun p q1 _ _ _ => hn p (by omega)) (fun _ _ => rfl), fun k hk => ⟨(a8 k hk).1, fun V hV => ?_⟩⟩
        · obtain ⟨b, k1, k2, k3, k4, k5⟩ := a6 r hr
          exact ⟨b, k1, k2, ⟨k3.1, k3.2.1, k3.2.2.1, by rw [hn _ (by omega)]; exact k3.2.2.2⟩, k4, k5⟩
        · obtain ⟨b, k1, k2, k3, k4, k5⟩ := (a8 k hk).2 V hV
          exact ⟨b, k1, k2, k3, k4, k5.fr (fun c q1 q2 => hn c (by omega)) rfl (Nat.le_refl _) (fun _ _ => rfl) (fun p q1 _ _ _ => hn p (by omega)) (fun _ _ => rfl)⟩
      · obtain ⟨⟨a1, a2⟩, ⟨a3, a4, a5⟩, a6, a7⟩ := h2
        have hn : ∀ b, b ≠ 0 → sI (wI σm 0 29 (nI v)) b = sI σm b := fun b hb => sI_wIn _ _ _ _ hb
        have hk : ∀ j, j ≠ 29 → sI (wI σm 0 29 (nI v)) 0 j = sI σm 0 j := fun j hj => sI_wIk _ _ _ _ hj
        refine ⟨⟨sI_wIs _ _ _ _, fun i hi => by rw [hn 28 (by decide)]; exact a2 i (by omega)⟩, ⟨by rw [hk 33 (by decide)]; exact a3, by rw [hk 38 (by decide)]; exact a4, fun r hr => (a5 r hr).fr (fun b q1 q2 => hn b (by omega))⟩, ?_, fun k hk2 => ⟨fun hw => by rw [hn 46 (by decide)]; exact (a7 k hk2).1 hw, fun V hV => ?_⟩⟩
        · exact a6.cg h3.2.2.1.1 (hk 28 (by decide)) (hk 51 (by decide)) (fun j _ => by rw [hn 1 (by decide)]) (fun j _ => by rw [hn 4 (by decide)]) (fun b j hb _ => by rw [hn b (by omega)]) (fun b j hb _ => by rw [hn b (by omega)]) (fun j _ => by rw [hn 15 (by decide)]) (by rw [hn 17 (by decide)]) (fun j _ => by rw [hn 38 (by decide)])
        · obtain ⟨k1, k2⟩ := (a7 k hk2).2 V hV
          exact ⟨by rw [hn 46 (by decide)]; exact k1, k2.img (h3.2.2.2 k V hk2 hV).1 (by rw [hn 47 (by decide)]) (fun j _ _ => by rw [hn 45 (by decide)])⟩
    · exact ⟨-1, σx, σm, by rw [if_neg hh], by rw [if_neg hh], hI1.up (by omega)⟩
/-! logs -/
def wLog (W : Wd) (n w h : Nat) : Wd := (up1 W.1 6 (wc W 6 + 1), wL W, wS W, wB W, wQ W, up2 (up2 (up2 (wG W) 0 (wc W 6) n) 1 (wc W 6) w) 2 (wc W 6) h)
theorem wLog_c (W : Wd) (n w h : Nat) {j : Nat} (hj : j ≠ 6) : wc (wLog W n w h) j = wc W j := up1_n _ _ hj
theorem wLog_6 (W : Wd) (n w h : Nat) : wc (wLog W n w h) 6 = wc W 6 + 1 := by
  show up1 W.1 6 (wc W 6 + 1) 6 = _
  exact up1_s _ _ _
theorem wLog_G (W : Wd) (n w h : Nat) : wG (wLog W n w h) = up2 (up2 (up2 (wG W) 0 (wc W 6) n) 1 (wc W 6) w) 2 (wc W 6) h := rfl
theorem G_old (G : Row2) (l n w h : Nat) {r j : Nat} (hj : j ≠ l) : up2 (up2 (up2 G 0 l n) 1 l w) 2 l h r j = G r j := by
  simp [up2, hj]
theorem G_0 (G : Row2) (l n w h : Nat) : up2 (up2 (up2 G 0 l n) 1 l w) 2 l h 0 l = n := by simp [up2]
theorem G_1 (G : Row2) (l n w h : Nat) : up2 (up2 (up2 G 0 l n) 1 l w) 2 l h 1 l = w := by simp [up2]
theorem G_2 (G : Row2) (l n w h : Nat) : up2 (up2 (up2 G 0 l n) 1 l w) 2 l h 2 l = h := by simp [up2]
theorem XW.log {ow : Nat → Nat} {σ : MS} {W : Wd} (h : XW ow 0 22 σ W) (n w q : Nat) : XW ow 0 22 (wI (wI (wI (wI σ 40 (wc W 6) (nI n)) 41 (wc W 6) (nI w)) 42 (wc W 6) (hI q)) 22 8 (nI (wc W 6 + 1))) (wLog W n w q) := by
  obtain ⟨⟨h1, h2⟩, h3, h4, ⟨h5, h6, h7, h8⟩, h9, np, g1, g2, g3, g4⟩ := h
  have hn : ∀ b, b ≠ 22 → b ≠ 40 → b ≠ 41 → b ≠ 42 → sI (wI (wI (wI (wI σ 40 (wc W 6) (nI n)) 41 (wc W 6) (nI w)) 42 (wc W 6) (hI q)) 22 8 (nI (wc W 6 + 1))) b = sI σ b := fun b q1 q2 q3 q4 => by rw [sI_wIn _ _ _ _ q1, sI_wIn _ _ _ _ q4, sI_wIn _ _ _ _ q3, sI_wIn _ _ _ _ q2]
  have hk : ∀ j, j ≠ 8 → sI (wI (wI (wI (wI σ 40 (wc W 6) (nI n)) 41 (wc W 6) (nI w)) 42 (wc W 6) (hI q)) 22 8 (nI (wc W 6 + 1))) 22 j = sI σ 22 j := fun j hj => by rw [sI_wIk _ _ _ _ hj, sI_wIn _ _ _ _ (by decide), sI_wIn _ _ _ _ (by decide), sI_wIn _ _ _ _ (by decide)]
  refine ⟨⟨by rw [hn _ (by decide) (by decide) (by decide) (by decide), wLog_c _ _ _ _ (by decide)]; exact h1, ?_⟩, h3.fr (fun b q1 q2 => hn b (by omega) (by omega) (by omega) (by omega)), h4.fr (fun b q1 q2 => hn b (by omega) (by omega) (by omega) (by omega)), ?_, ?_, np, g1, ?_, ?_, ?_⟩
  · rw [wLog_c _ _ _ _ (by decide), wLog_c _ _ _ _ (by decide), wLog_c _ _ _ _ (by decide)]
    exact h2.fr (fun b q1 q2 => hn b (by omega) (by omega) (by omega) (by omega))
  · exact ⟨by rw [hk 9 (by decide), wLog_c _ _ _ _ (by decide)]; exact h5, by rw [hk 10 (by decide), wLog_c _ _ _ _ (by decide)]; exact h6, by rw [sI_wIs, wLog_6], by rw [hk 4 (by decide), wLog_c _ _ _ _ (by decide)]; exact h8⟩
  · intro i hi
    rw [wLog_6] at hi
    rw [wLog_G]
    show sI _ 40 i = _ ∧ sI _ 41 i = _ ∧ sI _ 42 i = _
    rw [sI_wIn _ _ _ _ (show (40 : Nat) ≠ 22 by decide), sI_wIn _ _ _ _ (show (40 : Nat) ≠ 42 by decide), sI_wIn _ _ _ _ (show (40 : Nat) ≠ 41 by decide), sI_wIn _ _ _ _ (show (41 : Nat) ≠ 22 by decide), sI_wIn _ _ _ _ (show (41 : Nat) ≠ 42 by decide), sI_wIn _ _ _ _ (show (42 : Nat) ≠ 22 by decide)]
    by_cases e : i = wc W 6
    · subst e
      rw [sI_wIs, sI_wIs, sI_wIs, G_0, G_1, G_2]
      exact ⟨rfl, rfl, rfl⟩
    · rw [sI_wIk _ _ _ _ e, sI_wIk _ _ _ _ e, sI_wIk _ _ _ _ e, sI_wIn _ _ _ _ (show (41 : Nat) ≠ 40 by decide), sI_wIn _ _ _ _ (show (42 : Nat) ≠ 41 by decide), sI_wIn _ _ _ _ (show (42 : Nat) ≠ 40 by decide), G_old _ _ _ _ _ e, G_old _ _ _ _ _ e, G_old _ _ _ _ _ e]
      exact h9 i (by omega)
  · rw [hk 3 (by decide)]; exact g2
  · exact fun s hs b hb => g3 s hs b hb
  · intro j hj
    rw [wLog_c _ _ _ _ (by decide)] at hj
    obtain ⟨b, q1, q2⟩ := g4 j hj
    have := (g3 _ (Nat.mod_lt _ (by decide)) b q1).1
    exact ⟨b, q1, q2.fr (fun p _ _ => hn p (by omega) (by omega) (by omega) (by omega))⟩
theorem MW.log {σ : MS} {W : Wd} (h : MW σ W) (hW : WW W) (n w q : Nat) : MW (wI (wI (wI (wI σ 12 (wc W 6) (nI n)) 13 (wc W 6) (nI w)) 14 (wc W 6) (hI q)) 1 7 (nI (wc W 6 + 1))) (wLog W n w q) := by
  obtain ⟨⟨h1, h2⟩, h3, ⟨h4, h5, h6⟩, ⟨h7, h8, h9, h10⟩, h11, h12⟩ := h
  obtain ⟨⟨w1, w2, w3, w4, w5⟩, ⟨⟨⟨w6, w7, w8, _⟩, _⟩, _⟩, _⟩ := hW
  have hn : ∀ b, b ≠ 1 → b ≠ 12 → b ≠ 13 → b ≠ 14 → sI (wI (wI (wI (wI σ 12 (wc W 6) (nI n)) 13 (wc W 6) (nI w)) 14 (wc W 6) (hI q)) 1 7 (nI (wc W 6 + 1))) b = sI σ b := fun b q1 q2 q3 q4 => by rw [sI_wIn _ _ _ _ q1, sI_wIn _ _ _ _ q4, sI_wIn _ _ _ _ q3, sI_wIn _ _ _ _ q2]
  have hk : ∀ j, j ≠ 7 → sI (wI (wI (wI (wI σ 12 (wc W 6) (nI n)) 13 (wc W 6) (nI w)) 14 (wc W 6) (hI q)) 1 7 (nI (wc W 6 + 1))) 1 j = sI σ 1 j := fun j hj => by rw [sI_wIk _ _ _ _ hj, sI_wIn _ _ _ _ (by decide), sI_wIn _ _ _ _ (by decide), sI_wIn _ _ _ _ (by decide)]
  have c1 := wLog_c W n w q (j := 1) (by decide)
  have c2 := wLog_c W n w q (j := 2) (by decide)
  have c3 := wLog_c W n w q (j := 3) (by decide)
  have c7 := wLog_c W n w q (j := 7) (by decide)
  refine ⟨⟨by rw [hn _ (by decide) (by decide) (by decide) (by decide), wLog_c _ _ _ _ (by decide)]; exact h1, ?_⟩, ?_, ?_, ?_, ?_, ?_⟩
  · rw [c1, c2, c3]
    obtain ⟨⟨a1, a2, a3, a4⟩, a5, a6, a7⟩ := h2
    exact ⟨⟨by rw [hk 2 (by decide)]; exact a1, by rw [hk 3 (by decide)]; exact a2, by rw [hk 4 (by decide)]; exact a3, by rw [hk 0 (by decide)]; exact a4⟩, fun q hq => by rw [hn 2 (by decide) (by decide) (by decide) (by decide), hn 3 (by decide) (by decide) (by decide) (by decide)]; exact a5 q hq, fun q hq => by rw [hn 5 (by decide) (by decide) (by decide) (by decide), hn 6 (by decide) (by decide) (by decide) (by decide), hn 7 (by decide) (by decide) (by decide) (by decide)]; exact a6 q hq, fun q hq => by rw [hn 8 (by decide) (by decide) (by decide) (by decide), hn 11 (by decide) (by decide) (by decide) (by decide)]; exact a7 q hq⟩
  · rw [c2, c3]
    obtain ⟨a1, a2, a3, a4, a5⟩ := h3
    exact ⟨fun q hq => by rw [hn 9 (by decide) (by decide) (by decide) (by decide), hn 10 (by decide) (by decide) (by decide) (by decide)]; exact a1 q hq, fun q hq => by rw [hn 4 (by decide) (by decide) (by decide) (by decide)]; exact a2 q hq, by rw [hk 6 (by decide)]; exact a3, by rw [hk 1 (by decide)]; exact a4, by rw [hk 5 (by decide)]; exact a5⟩
  · rw [c2, c3, hn 15 (by decide) (by decide) (by decide) (by decide), hn 16 (by decide) (by decide) (by decide) (by decide), hn 17 (by decide) (by decide) (by decide) (by decide)]; exact ⟨h4, h5, h6⟩
  · exact ⟨by rw [hk 9 (by decide), wLog_c _ _ _ _ (by decide)]; exact h7, by rw [hk 8 (by decide), wLog_c _ _ _ _ (by decide)]; exact h8, by rw [sI_wIs, wLog_6], by rw [hn 0 (by decide) (by decide) (by decide) (by decide), c7]; exact h10⟩
  · intro i hi
    rw [wLog_6] at hi
    rw [wLog_G]
    rw [sI_wIn _ _ _ _ (show (12 : Nat) ≠ 1 by decide), sI_wIn _ _ _ _ (show (12 : Nat) ≠ 14 by decide), sI_wIn _ _ _ _ (show (12 : Nat) ≠ 13 by decide), sI_wIn _ _ _ _ (show (13 : Nat) ≠ 1 by decide), sI_wIn _ _ _ _ (show (13 : Nat) ≠ 14 by decide), sI_wIn _ _ _ _ (show (14 : Nat) ≠ 1 by decide)]
    by_cases e : i = wc W 6
    · subst e
      rw [sI_wIs, sI_wIs, sI_wIs, G_0, G_1, G_2]
      exact ⟨rfl, rfl, rfl⟩
    · rw [sI_wIk _ _ _ _ e, sI_wIk _ _ _ _ e, sI_wIk _ _ _ _ e, sI_wIn _ _ _ _ (show (13 : Nat) ≠ 12 by decide), sI_wIn _ _ _ _ (show (14 : Nat) ≠ 13 by decide), sI_wIn _ _ _ _ (show (14 : Nat) ≠ 12 by decide), G_old _ _ _ _ _ e, G_old _ _ _ _ _ e, G_old _ _ _ _ _ e]
      exact h11 i (by omega)
  · intro j hj
    rw [c7] at hj ⊢
    rw [c2, c3]
    exact (h12 j hj).cg w7 w8 (by omega) (fun q _ => by rw [hn 38 (by decide) (by decide) (by decide) (by decide)])
theorem WW.log {W : Wd} (h : WW W) {n w q : Nat} (h6 : wc W 6 < 10) (hn : n ≤ 60) (hw : w < wc W 3) (hq : q ≤ wc W 2) : WW (wLog W n w q) := by
  obtain ⟨⟨w1, w2, w3, w4, w5⟩, g2, g3, g4, g5, g6⟩ := h
  unfold WW
  rw [wLog_c W n w q (j := 0) (by decide), wLog_c W n w q (j := 1) (by decide), wLog_c W n w q (j := 2) (by decide), wLog_c W n w q (j := 3) (by decide), wLog_c W n w q (j := 4) (by decide), wLog_c W n w q (j := 5) (by decide), wLog_c W n w q (j := 7) (by decide), wLog_6, wLog_G]
  refine ⟨⟨w1, w2, w3, by omega, w5⟩, g2, g3, g4, g5, fun j hj => ?_⟩
  by_cases e : j = wc W 6
  · subst e; rw [G_0, G_1, G_2]; exact ⟨hn, hw, hq⟩
  · rw [G_old _ _ _ _ _ e, G_old _ _ _ _ _ e, G_old _ _ _ _ _ e]; exact g6 j (by omega)
theorem log_eq {t : Nat} {ow : Nat → Nat} {W : Wd} {Wi : Nat → Option Wd} {RR : List (List Cls)} {T : Nat → Nat} {len : Nat} {σx σm : MS} (hx : IX t ow W Wi RR T len σx) (hm : IM W Wi RR T len σm) (ho : OKW W Wi RR T len) {n w q : Nat} (hn : n ≤ 60) (hw : w < wc W 3) (hq : q ≤ wc W 2) : ∃ r σx' σm', b_X11_log_49 (nI n) (nI w) (hI q) σx = some (r, σx') ∧ b_X12_log_57 (nI n) (nI w) (hI q) (sI σm 1 7) σm = some (r, σm') ∧ Inv (t + 1) σx' σm' := by
  have hW := ho.2.2.1.1
  have h10 := hW.1.2.2.2.1
  have e8 : sI σx 22 8 = nI (wc W 6) := hx.2.2.2.1.2.2.2.1.2.2.1
  have e7 : sI σm 1 7 = nI (wc W 6) := hm.2.2.1.2.2.2.1.2.2.1
  have hI1 : Inv t σx σm := ⟨ow, W, Wi, RR, T, len, hx, hm, ho⟩
  unfold b_X11_log_49 b_X11_log_74 f_X10_addLog b_X10_addLog_0 b_X10_addLog_41 b_X12_log_57 b_X12_log_64 b_X12_log_102
  rw [e7]
  by_cases hl : wc W 6 < 10
  · have bl : inb (nI (wc W 6)) 10 := in_n hl (by decide)
    have il : ix (nI (wc W 6)) = wc W 6 := ix_n (by omega)
    have f1 : sI (wI σx 40 (wc W 6) (nI n)) 22 8 = nI (wc W 6) := by rw [sI_wIn _ _ _ _ (by decide)]; exact e8
    have f2 : sI (wI (wI σx 40 (wc W 6) (nI n)) 41 (wc W 6) (nI w)) 22 8 = nI (wc W 6) := by rw [sI_wIn _ _ _ _ (by decide)]; exact f1
    have f3 : sI (wI (wI (wI σx 40 (wc W 6) (nI n)) 41 (wc W 6) (nI w)) 42 (wc W 6) (hI q)) 22 8 = nI (wc W 6) := by rw [sI_wIn _ _ _ _ (by decide)]; exact f2
    have f4 : sI (wI (wI (wI σm 12 (wc W 6) (nI n)) 13 (wc W 6) (nI w)) 14 (wc W 6) (hI q)) 1 7 = nI (wc W 6) := by rw [sI_wIn _ _ _ _ (by decide), sI_wIn _ _ _ _ (by decide), sI_wIn _ _ _ _ (by decide)]; exact e7
    rw [e8, q_nl_lt (by decide) (by omega), if_pos hl, chk_t bl, il, f1, chk_t bl, il, f2, chk_t bl, il, f3, bnd, if_neg one_ne, q_nl_eq (by decide) (by omega), if_neg (by omega), chk_t bl, chk_t bl, chk_t bl, f4, nI_1, sI_wIs]
    refine ⟨_, _, _, rfl, rfl, ow, wLog W n w q, Wi, RR, T, len, hx.w ho.2.1.1 (hx.2.2.2.1.log n w q) (Nat.le_refl _) (by have := hx.1.2; show sN σx ≤ _; omega) (fun _ _ => rfl) (fun _ _ _ _ => rfl) ?_ ?_ ?_ (fun p hp _ _ => ?_) (fun _ _ => rfl), hm.w (fun k V hk hV => (ho.2.2.2 k V hk hV).1) (hm.2.2.1.log hW n w q) (fun j _ => ?_) (fun b hb => ?_) (fun j _ => ?_), ho.1, ho.2.1, ⟨hW.log hl hn hw hq, ?_⟩, ho.2.2.2⟩
    · rw [sI_wIn _ _ _ _ (by decide), sI_wIn _ _ _ _ (by decide), sI_wIn _ _ _ _ (by decide), sI_wIn _ _ _ _ (by decide)]
    · rw [sI_wIn _ _ _ _ (by decide), sI_wIn _ _ _ _ (by decide), sI_wIn _ _ _ _ (by decide), sI_wIn _ _ _ _ (by decide)]
    · rw [sI_wIn _ _ _ _ (by decide), sI_wIn _ _ _ _ (by decide), sI_wIn _ _ _ _ (by decide), sI_wIn _ _ _ _ (by decide)]
    · rw [sI_wIn _ _ _ _ (by omega), sI_wIn _ _ _ _ (by omega), sI_wIn _ _ _ _ (by omega), sI_wIn _ _ _ _ (by omega)]
    · rw [sI_wIn _ _ _ _ (by decide), sI_wIn _ _ _ _ (by decide), sI_wIn _ _ _ _ (by decide), sI_wIn _ _ _ _ (by decide)]
    · rw [sI_wIn _ _ _ _ (by omega), sI_wIn _ _ _ _ (by omega), sI_wIn _ _ _ _ (by omega), sI_wIn _ _ _ _ (by omega)]
    · rw [sI_wIn _ _ _ _ (by decide), sI_wIn _ _ _ _ (by decide), sI_wIn _ _ _ _ (by decide), sI_wIn _ _ _ _ (by decide)]
    · rw [wLog_c _ _ _ _ (by decide)]; exact ho.2.2.1.2
  · refine ⟨-2, σx, σm, ?_, ?_, hI1.up (by omega)⟩
    · rw [e8, q_nl_lt (by decide) (by omega), if_neg hl]; rfl
    · rw [q_nl_eq (by decide) (by omega), if_pos (by omega)]
theorem s_24 : StpK 24 := fun t a σx σm _ hI0 => by
  have hI1 := hI0
  obtain ⟨ow, W, Wi, RR, T, len, h1, h2, h3⟩ := hI0
  have hW := h3.2.2.1.1
  obtain ⟨⟨hK5, hP4, hN6, hf⟩, _⟩ := hW.2.1.1
  have fail : ∃ r σx' σm', b_X11_log_46 σx = some (r, σx') ∧ b_X12_log_64 σm = some (r, σm') ∧ Inv (t + 1) σx' σm' := ⟨-2, σx, σm, rfl, rfl, hI1.up (by omega)⟩
  show ∃ r σx' σm', f_X11_log (a 1) (a 2) (a 3) σx = some (r, σx') ∧ f_X12_log (a 1) (a 2) (a 3) σm = some (r, σm') ∧ Inv (t + 1) σx' σm'
  unfold f_X11_log b_X11_log_0 f_X12_log b_X12_log_0
  by_cases hn : a 1 = -1
  · rw [if_pos hn, if_pos hn]
    exact ⟨0, _, _, rfl, rfl, Inv.num (v := 0) h1 h2 h3 (Or.inr (Or.inr ⟨rfl, rfl, rfl, by omega⟩)) (Or.inr (Or.inr ⟨rfl, rfl, rfl, by omega⟩)) (Or.inr (Or.inr ⟨rfl, by omega⟩))⟩
  · rw [if_neg hn, if_neg hn]
    rcases m_in (a 1) (l := 0) (h := 60) 0 60 (by decide) (by decide) (by decide) (by decide) with ⟨g, h⟩ | ⟨n, g1, g2, en, h⟩
    · rw [h, bnd, if_pos rfl]
      rcases g with g | g
      · rw [if_pos (show a 1 < 0 from g)]; exact fail
      · have g' : (60 : Int32) < a 1 := g
        rw [if_pos g', ite_self]; exact fail
    · rw [h, bnd, if_neg one_ne, en, if_neg (nI_pos (by omega)), q_ln_lt (by decide) (by omega), if_neg (by omega)]
      rcases w_isWork h1.2.2.2.1.v.1.2.1.2.2.1 h2.2.2.1.1.2.1.2.2.1 (by omega) (a 2) with ⟨w, k1, ew, k2, k3⟩ | ⟨k2, k3⟩
      · rw [k2, k3, bnd, bnd, if_neg one_ne, if_neg one_ne, ew]
        by_cases hq : a 3 = -1
        · rw [if_pos hq, if_pos hq, hq, ← hI_0]
          exact log_eq h1 h2 h3 g2 k1 (by omega)
        · rw [if_neg hq, if_neg hq]
          rcases w_isPerson h1.2.2.2.1.v.1.2.1.2.1 h2.2.2.1.1.2.1.2.1 (by omega) (a 3) with ⟨p, l1, ep, l2, l3⟩ | ⟨l2, l3⟩
          · rw [l2, l3, bnd, bnd, if_neg one_ne, if_neg one_ne, ep, ← hI_s p]
            exact log_eq h1 h2 h3 g2 k1 (by omega)
          · rw [l2, l3, bnd, bnd, if_pos rfl, if_pos rfl]; exact fail
      · rw [k2, k3, bnd, bnd, if_pos rfl, if_pos rfl]; exact fail
end
