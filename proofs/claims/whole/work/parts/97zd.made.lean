/-! ===== pure: rule, the call ===== -/
section MADE
theorem x_newRule {σ : MS} {L : Nat} (hN : sN σ + 2 ≤ 1000000) (h56 : 56 ≤ sN σ) (hL : L < 401) (hc : sI σ 17 8 = nI L) : ∃ σ', f_X6_init (sN σ) 19 401 (sI (al σ (30 + 6) 0) 17 8) (al σ (30 + 6) 0) = some σ' ∧ sN σ' = sN σ + 2 ∧ (∀ p, p < sN σ → sS σ' p = sS σ p ∧ sI σ' p = sI σ p ∧ sR σ' p = sR σ p) ∧ sS σ' (sN σ) = (16, 0) ∧ sS σ' (sN σ + 1) = (0, L) ∧ ∀ i, i < L → sI σ' (sN σ + 1) i = sI σ 19 i := by
  obtain ⟨σ2, h2⟩ : ∃ σ2, σ2 = al σ (30 + 6) 0 := ⟨_, rfl⟩
  have n2 : sN σ2 = sN σ + 1 := by rw [h2]; rfl
  have i2 : ∀ p, p < sN σ → sS σ2 p = sS σ p ∧ sI σ2 p = sI σ p ∧ sR σ2 p = sR σ p := fun p hp => by
    rw [h2, sS_al, sI_al, sR_al, if_neg (by omega), if_neg (by omega), if_neg (by omega)]; exact ⟨rfl, rfl, rfl⟩
  have s2 : sS σ2 (sN σ) = (36, 0) := by rw [h2, sS_al, if_pos rfl]
  have e8 : sI σ2 17 8 = nI L := by rw [(i2 17 (by omega)).2.1]; exact hc
  obtain ⟨σ3, h3⟩ : ∃ σ3, σ3 = al σ2 0 L := ⟨_, rfl⟩
  obtain ⟨c1, c2, c3⟩ := cp1 σ3 (sN σ2) 19 L
  obtain ⟨σ4, h4⟩ : ∃ σ4, σ4 = wW σ3 (sN σ2) (va_cpy (sI σ3 19) (sI σ3 (sN σ2)) 0 0 L) := ⟨_, rfl⟩
  rw [← h4] at c1 c2 c3
  have n3 : sN σ3 = sN σ + 2 := by rw [h3, sN_al, n2]
  have n4 : sN σ4 = sN σ + 2 := by rw [c1.1, n3]
  have s3 : ∀ b, sS σ4 b = if b = sN σ2 then (0, L) else sS σ2 b := fun b => by rw [c1.2.1, h3, sS_al]
  have r3 : ∀ b, sR σ4 b = if b = sN σ2 then (fun _ => none) else sR σ2 b := fun b => by rw [c1.2.2, h3, sR_al]
  have i3 : ∀ b, b ≠ sN σ2 → sI σ4 b = sI σ2 b := fun b hb => by rw [c2 b hb, h3, sI_al, if_neg hb]
  have hcpy : f_J7_copyOf_59c91 19 401 (nI L) σ2 = some (sN σ2, σ4) := by
    unfold f_J7_copyOf_59c91 b_J7_copyOf_59c91_0 f_J9_min_7cf53 b_J9_min_7cf53_0 b_J9_min_7cf53_10
    rw [show Int32.ofNat 401 = nI 401 from rfl, if_neg (by rw [nI_eq (by omega) (by decide)]; omega), ix_n (by omega), chk_t ⟨nI_pos (by omega), by omega⟩, chk_t (by omega), if_pos (by rw [nI_ltI (by omega) (by decide)]; exact hL), bnd, ix_n (by omega), chk_t ⟨by decide, by decide, nI_pos (by omega), by rw [show ix (0 : Int32) = 0 from rfl]; omega, by rw [show ix (0 : Int32) = 0 from rfl]; omega⟩, ← h3, show ix (0 : Int32) = 0 from rfl, ← h4]
  have t4 : tfd σ4 (sN σ) (30 + 6, 0) := ⟨by omega, by rw [s3, if_neg (by omega)]; exact s2⟩
  obtain ⟨σ5, h5⟩ : ∃ σ5, σ5 = wR σ4 (sN σ) 0 (some (sN σ2)) := ⟨_, rfl⟩
  have f5 : finOK σ5 (sN σ) 6 := by
    intro k hk _
    have : k = 0 := by have : nf 6 = 1 := rfl; omega
    subst this
    rw [h5, sR_wRs, n2]; rfl
  refine ⟨fin σ5 (sN σ) 6, ?_, by rw [sN_fin, h5]; exact n4, fun p hp => ?_, by rw [sS_fin, if_pos rfl], ?_, fun i hi => ?_⟩
  · rw [← h2, e8]
    unfold f_X6_init b_X6_init_0 f_J9_max_7cf53 b_J9_max_7cf53_0 b_J9_max_7cf53_10
    have hmax : (if (0 : Int32) < nI L then some (nI L) else some (0 : Int32)) = some (nI L) := by
      by_cases c : L = 0
      · subst c; rfl
      · rw [if_pos (by rw [show (0 : Int32) = nI 0 from rfl, nI_ltI (by decide) (by omega)]; omega)]
    rw [hmax, bnd, hcpy, bnd]
    show @chk (tfd σ4 (sN σ) (30 + 6, 0)) (dec_tfd σ4 (sN σ) (30 + 6, 0)) _ _ = _
    rw [chk_t t4]
    show @chk (finOK (wR σ4 (sN σ) 0 (some (sN σ2))) (sN σ) 6) (dec_finOK (wR σ4 (sN σ) 0 (some (sN σ2))) (sN σ) 6) _ _ = _
    rw [← h5, chk_t f5]
  · rw [sS_fin, if_neg (by omega), sI_fin, sR_fin, h5, sR_wRn _ _ _ (by omega)]
    show sS σ4 p = _ ∧ sI σ4 p = _ ∧ sR σ4 p = _
    rw [s3, if_neg (by omega), i3 p (by omega), r3, if_neg (by omega)]
    exact i2 p hp
  · rw [sS_fin, if_neg (by omega), h5]
    show sS σ4 _ = _
    rw [s3, if_pos n2.symm]
  · rw [sI_fin, h5]
    show sI σ4 _ _ = _
    rw [← n2, c3 i hi, h3, sI_al, if_neg (by omega), (i2 19 (by omega)).2.1]
theorem RMr.lt {σ σ' : MS} {r q : Nat} {R : List Cls} (h : RMr σ q R) (hq : q < r) (h29 : ∀ i, i < 300 * r → sI σ' 29 i = sI σ 29 i ∧ sI σ' 30 i = sI σ 30 i) (h31 : ∀ i, i < r → sI σ' 31 i = sI σ 31 i) (h32 : ∀ i, i < 12 * r → sI σ' 32 i = sI σ 32 i ∧ sI σ' 33 i = sI σ 33 i ∧ sI σ' 34 i = sI σ 34 i) : RMr σ' q R := by
  obtain ⟨a1, a2, a3⟩ := h
  refine ⟨a1, by rw [h31 q hq]; exact a2, fun c hc => ?_⟩
  obtain ⟨o, b1, b2, b3, b4, b5⟩ := a3 c hc
  obtain ⟨g1, g2, g3⟩ := h32 (12 * q + c) (by omega)
  refine ⟨o, by rw [g1]; exact b1, by rw [g2]; exact b2, by rw [g3]; exact b3, b4, fun j hj => ?_⟩
  have hj' : j < (R.getD c ([], [])).1.length + (R.getD c ([], [])).2.length := by rw [← List.length_append]; exact hj
  obtain ⟨k1, k2⟩ := h29 (300 * q + o + j) (by omega)
  rw [k1, k2]; exact b5 j hj
theorem RMc.sub {σ : MS} {r : Nat} {a b d : List Ent} (h : RMc σ r 0 (a ++ (b ++ d))) : RMc σ r a.length b := by
  intro j hj
  have := h (a.length + j) (by simp; omega)
  have e : (a ++ (b ++ d)).getD (a.length + j) (0, 0) = b.getD j (0, 0) := by
    rw [List.getD_eq_getElem?_getD, List.getD_eq_getElem?_getD, List.getElem?_append_right (by omega), show a.length + j - a.length = j by omega, List.getElem?_append_left hj]
  rw [e, show 300 * r + 0 + (a.length + j) = 300 * r + a.length + j by omega] at this
  exact this
theorem entsOf_at : ∀ (R : List Cls) (c : Nat), c < R.length → ∃ d, entsOf R = entsOf (R.take c) ++ (((R.getD c ([], [])).1 ++ (R.getD c ([], [])).2) ++ d)
  | [], c, hc => absurd hc (Nat.not_lt_zero _)
  | x :: R, 0, _ => ⟨entsOf R, rfl⟩
  | x :: R, c + 1, hc => by
    obtain ⟨d, e⟩ := entsOf_at R c (by simpa using hc)
    refine ⟨d, ?_⟩
    show x.1 ++ x.2 ++ entsOf R = x.1 ++ x.2 ++ entsOf (R.take c) ++ _
    rw [e]; simp
theorem ROk.rmr {r : Nat} {R : List Cls} {σx σm σ' : MS} (h : ROk r R σx σm) (h31 : sI σ' 31 r = nI R.length) (h29 : ∀ b, b = 29 ∨ b = 30 ∨ b = 32 ∨ b = 33 ∨ b = 34 → sI σ' b = sI σm b) : RMr σ' r R := by
  obtain ⟨a1, a2, a3, a4, a5, a6, a7⟩ := h
  refine ⟨a1, h31, fun c hc => ?_⟩
  obtain ⟨d, e⟩ := entsOf_at R c hc
  obtain ⟨b1, b2, b3⟩ := a5 c hc
  have hl : (entsOf R).length = (entsOf (R.take c)).length + (((R.getD c ([], [])).1.length + (R.getD c ([], [])).2.length) + d.length) := by
    rw [e]; simp only [List.length_append]
  rw [e] at a4
  refine ⟨(entsOf (R.take c)).length, by rw [h29 32 (by decide)]; exact b1, by rw [h29 33 (by decide)]; exact b2, by rw [h29 34 (by decide)]; exact b3, by omega, fun j hj => ?_⟩
  rw [h29 29 (by decide), h29 30 (by decide)]
  exact a4.sub j hj
end MADE
