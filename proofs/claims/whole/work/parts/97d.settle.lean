/-! ===== pure: duchy, the call ===== -/
section
theorem x_clear (σ : MS) : ∃ σ', f_X3_clear σ = some σ' ∧ Sm σ σ' ∧ (∀ b, (b < 4 ∨ 15 < b) → sI σ' b = sI σ b) ∧ (∀ j, j < 5 → sI σ' 4 j = 0) ∧ SX 12 σ' (fun _ _ => 0) := by
  obtain ⟨σ0, h0⟩ : ∃ σ0, σ0 = wI (wI (wI (wI (wI σ 4 0 (0 : Int32)) 4 1 (0 : Int32)) 4 2 (0 : Int32)) 4 3 (0 : Int32)) 4 4 (0 : Int32) := ⟨_, rfl⟩
  have z4 : ∀ j, j < 5 → sI σ0 4 j = 0 := fun j hj => by
    rw [h0]
    rcases (by omega : j = 0 ∨ j = 1 ∨ j = 2 ∨ j = 3 ∨ j = 4) with e | e | e | e | e <;> subst e
    · rw [sI_wIk _ _ _ _ (by decide), sI_wIk _ _ _ _ (by decide), sI_wIk _ _ _ _ (by decide), sI_wIk _ _ _ _ (by decide), sI_wIs]
    · rw [sI_wIk _ _ _ _ (by decide), sI_wIk _ _ _ _ (by decide), sI_wIk _ _ _ _ (by decide), sI_wIs]
    · rw [sI_wIk _ _ _ _ (by decide), sI_wIk _ _ _ _ (by decide), sI_wIs]
    · rw [sI_wIk _ _ _ _ (by decide), sI_wIs]
    · rw [sI_wIs]
  have zn : ∀ b, b ≠ 4 → sI σ0 b = sI σ b := fun b hb => by rw [h0, sI_wIn _ _ _ _ hb, sI_wIn _ _ _ _ hb, sI_wIn _ _ _ _ hb, sI_wIn _ _ _ _ hb, sI_wIn _ _ _ _ hb]
  have sm0 : Sm σ σ0 := by rw [h0]; exact ⟨rfl, rfl, rfl⟩
  obtain ⟨σ1, a1, a2, a3, a4⟩ := x_fill (b := 13) (n1 := 6) (x := -1) (by decide) σ0
  obtain ⟨σ2, b1, b2, b3, b4⟩ := x_fill (b := 14) (n1 := 6) (x := 0) (by decide) σ1
  obtain ⟨σ3, c1, c2, c3, c4⟩ := x_fill (b := 15) (n1 := 4) (x := 0) (by decide) σ2
  refine ⟨wI (wI (wI σ3 12 3 (0 : Int32)) 12 4 (0 : Int32)) 12 5 (0 : Int32), ?_, ?_, fun b hb => ?_, fun j hj => ?_, ⟨fun w hw => ⟨?_, ?_⟩, fun p hp => ?_, ?_, ?_, ?_⟩⟩
  · unfold f_X3_clear b_X3_clear_0 f_X8_clear b_X8_clear_0
    rw [← h0, a1, bnd, b1, bnd, c1]; rfl
  · exact sm0.trans (a2.trans (b2.trans (c2.trans ⟨rfl, rfl, rfl⟩)))
  · rw [sI_wIn _ _ _ _ (by omega), sI_wIn _ _ _ _ (by omega), sI_wIn _ _ _ _ (by omega), c3 b (by omega), b3 b (by omega), a3 b (by omega), zn b (by omega)]
  · rw [sI_wIn _ _ _ _ (by decide), sI_wIn _ _ _ _ (by decide), sI_wIn _ _ _ _ (by decide), c3 4 (by decide), b3 4 (by decide), a3 4 (by decide), z4 j hj]
  · rw [sI_wIn _ _ _ _ (by decide), sI_wIn _ _ _ _ (by decide), sI_wIn _ _ _ _ (by decide), c3 13 (by decide), b3 13 (by decide), a4, if_pos hw]; rfl
  · rw [sI_wIn _ _ _ _ (by decide), sI_wIn _ _ _ _ (by decide), sI_wIn _ _ _ _ (by decide), c3 14 (by decide), b4, if_pos hw]; rfl
  · rw [sI_wIn _ _ _ _ (by decide), sI_wIn _ _ _ _ (by decide), sI_wIn _ _ _ _ (by decide), c4, if_pos hp]; rfl
  · rw [sI_wIk _ _ _ _ (by decide), sI_wIk _ _ _ _ (by decide), sI_wIs]; rfl
  · rw [sI_wIk _ _ _ _ (by decide), sI_wIs]; rfl
  · rw [sI_wIs]; rfl
theorem m_zero18 : ∀ (j k n : Nat) (σ : MS), k + j = 5 → j < n → ∃ σ', b_X12_readsAll_6 n (nI k) σ = b_X12_readsAll_28 FU 0 1 σ' ∧ Sm σ σ' ∧ (∀ b, b ≠ 18 → sI σ' b = sI σ b) ∧ (∀ i, sI σ' 18 i = if k ≤ i ∧ i < 5 then 0 else sI σ 18 i)
  | 0, k, n + 1, σ, hk, _ => by
    refine ⟨σ, ?_, Sm.refl σ, fun _ _ => rfl, fun i => by rw [if_neg (by omega)]⟩
    conv => lhs; unfold b_X12_readsAll_6
    rw [q_ln_le (by decide) (by omega), if_pos (by omega)]
  | j + 1, k, n + 1, σ, hk, hj => by
    obtain ⟨σ', g1, g2, g3, g4⟩ := m_zero18 j (k + 1) n (wI σ 18 k 0) (by omega) (by omega)
    refine ⟨σ', ?_, ⟨g2.1, g2.2.1, g2.2.2⟩, fun b hb => by rw [g3 b hb, sI_wIn _ _ _ _ hb], fun i => ?_⟩
    · conv => lhs; unfold b_X12_readsAll_6
      rw [q_ln_le (by decide) (by omega), if_neg (by omega), chk_t (in_n (show k < 5 by omega) (by decide)), ix_n (by omega), nI_1]
      exact g1
    · rw [g4 i, sI_r]
      by_cases e : i = k
      · subst e; rw [if_neg (by omega), if_pos rfl, if_pos (by omega)]
      · rw [if_neg e]; exact ite_iff (by omega) _ _
  | _, _, 0, _, _, hn => absurd hn (Nat.not_lt_zero _)
/-- behind the numbers -/
def duE (σ : MS) : Option (Int32 × MS) := (f_X12_copies 19 5 2 5 σ).bind (fun r19 => (f_X12_copies 20 5 3 5 r19).bind (fun r20 => (f_X12_copies 21 4 15 4 r20).bind (fun r21 => (f_X12_copies 22 4 5 4 r21).bind (fun r22 => (f_X12_copies 23 4 6 4 r22).bind (fun r23 => (f_X12_copies 24 4 7 4 r23).bind (fun r24 => (f_X12_copies 25 6 8 6 r24).bind (fun r25 => (f_X12_copies 26 6 16 6 r25).bind (fun r26 => (f_X12_copies 27 6 11 6 r26).bind (fun r27 => (f_X12_begins (wI (wI r27 17 0 (sI r27 18 1)) 0 28 (1 : Int32))).bind (fun r28 => some ((sI (wI r28 0 51 (0 : Int32)) 1 4), (wI r28 0 51 (0 : Int32)))))))))))))
theorem m_nums : ∀ (j k n : Nat) (σ : MS), k + j = 8 → j < n → ∃ σ', b_X12_duchy_21 n (nI k) σ = duE σ' ∧ Sm σ σ' ∧ (∀ b, b ≠ 1 → sI σ' b = sI σ b) ∧ (∀ i, sI σ' 1 i = if k ≤ i ∧ i < 8 then (if i < 5 then sI σ 18 i else 0) else sI σ 1 i)
  | 0, k, n + 1, σ, hk, _ => by
    refine ⟨σ, ?_, Sm.refl σ, fun _ _ => rfl, fun i => by rw [if_neg (by omega)]⟩
    conv => lhs; unfold b_X12_duchy_21
    rw [q_ln_le (by decide) (by omega), if_pos (by omega)]; rfl
  | j + 1, k, n + 1, σ, hk, hj => by
    obtain ⟨σ', g1, g2, g3, g4⟩ := m_nums j (k + 1) n (wI σ 1 k (if k < 5 then sI σ 18 k else 0)) (by omega) (by omega)
    refine ⟨σ', ?_, ⟨g2.1, g2.2.1, g2.2.2⟩, fun b hb => by rw [g3 b hb, sI_wIn _ _ _ _ hb], fun i => ?_⟩
    · rw [← g1]
      conv => lhs; unfold b_X12_duchy_21 b_X12_duchy_47
      rw [q_ln_le (by decide) (by omega), if_neg (by omega), q_ln_le (by decide) (by omega), chk_t (in_n (show k < 10 by omega) (by decide)), ix_n (by omega), nI_1]
      by_cases c : k < 5
      · rw [if_neg (by omega), chk_t (in_n c (by decide)), chk_t (in_n (show k < 10 by omega) (by decide)), if_pos c]
      · rw [if_pos (by omega), if_neg c]
    · rw [g4 i, sI_wIn _ _ _ _ (by decide), sI_r]
      by_cases e : i = k
      · subst e; rw [if_neg (show ¬ (i + 1 ≤ i ∧ i < 8) by omega), if_pos rfl, if_pos (show i ≤ i ∧ i < 8 by omega)]
      · rw [if_neg e]; exact ite_iff (by omega) _ _
  | _, _, 0, _, _, hn => absurd hn (Nat.not_lt_zero _)
/-- the reference takes the new duchy -/
theorem m_settle {K P N : Nat} {L S : Row2} {σx σm : MS} (D : Dft 1 K P N L S σx σm) (hW : WD 1 K P N L S) : ∃ σ', b_X12_duchy_21 FU 0 σm = some (nI N, σ') ∧ LM σ' K P N L ∧ SM σ' P N S ∧ (∀ p, p < P → sI σ' 15 p = nI (S 2 p)) ∧ (∀ w, w < N → sI σ' 16 w = hI (S 0 w)) ∧ sI σ' 17 0 = nI (S 3 4) ∧ sI σ' 0 28 = 1 ∧ sI σ' 0 51 = 0 ∧ (∀ j, j ≠ 28 → j ≠ 51 → sI σ' 0 j = sI σm 0 j) ∧ sI σ' 1 7 = 0 ∧ (∀ j, 8 ≤ j → sI σ' 1 j = sI σm 1 j) ∧ (∀ b, 18 ≤ b → sI σ' b = sI σm b) := by
  have hF := FU_big
  obtain ⟨_, ⟨⟨w2, w3, w4, w5⟩, w6, w7, w8⟩, w9, w10, z5, z3, z1⟩ := hW
  obtain ⟨_, ⟨d4, d5, d6, d7, d8⟩, d9, d10, d11⟩ := D
  obtain ⟨σ0, n1, n2, n3, n4⟩ := m_nums 8 0 FU σm (by decide) (by omega)
  obtain ⟨σ1, a1, a2, a3, a4⟩ := m_copies (a0 := 19) (a1 := 2) (n0 := 5) (n1 := 5) (by decide) (by decide) (by decide) σ0
  obtain ⟨σ2, b1, b2, b3, b4⟩ := m_copies (a0 := 20) (a1 := 3) (n0 := 5) (n1 := 5) (by decide) (by decide) (by decide) σ1
  obtain ⟨σ3, c1, c2, c3, c4⟩ := m_copies (a0 := 21) (a1 := 15) (n0 := 4) (n1 := 4) (by decide) (by decide) (by decide) σ2
  obtain ⟨σ4, e1, e2, e3, e4⟩ := m_copies (a0 := 22) (a1 := 5) (n0 := 4) (n1 := 4) (by decide) (by decide) (by decide) σ3
  obtain ⟨σ5, f1, f2, f3, f4⟩ := m_copies (a0 := 23) (a1 := 6) (n0 := 4) (n1 := 4) (by decide) (by decide) (by decide) σ4
  obtain ⟨σ6, g1, g2, g3, g4⟩ := m_copies (a0 := 24) (a1 := 7) (n0 := 4) (n1 := 4) (by decide) (by decide) (by decide) σ5
  obtain ⟨σ7, h1, h2, h3, h4⟩ := m_copies (a0 := 25) (a1 := 8) (n0 := 6) (n1 := 6) (by decide) (by decide) (by decide) σ6
  obtain ⟨σ8, i1, i2, i3, i4⟩ := m_copies (a0 := 26) (a1 := 16) (n0 := 6) (n1 := 6) (by decide) (by decide) (by decide) σ7
  obtain ⟨σ9, j1, j2, j3, j4⟩ := m_copies (a0 := 27) (a1 := 11) (n0 := 6) (n1 := 6) (by decide) (by decide) (by decide) σ8
  have keep : ∀ b, b ≠ 1 → b ≠ 2 → b ≠ 3 → b ≠ 5 → b ≠ 6 → b ≠ 7 → b ≠ 8 → b ≠ 11 → b ≠ 15 → b ≠ 16 → sI σ9 b = sI σm b := fun b q1 q2 q3 q5 q6 q7 q8 q11 q15 q16 => by rw [j3 b q11, i3 b q16, h3 b q8, g3 b q7, f3 b q6, e3 b q5, c3 b q15, b3 b q3, a3 b q2, n3 b q1]
  obtain ⟨τ, hτ⟩ : ∃ τ, τ = wI (wI σ9 17 0 (sI σ9 18 1)) 0 28 (1 : Int32) := ⟨_, rfl⟩
  have t : ∀ b, b ≠ 0 → b ≠ 17 → sI τ b = sI σ9 b := fun b q1 q2 => by rw [hτ, sI_wIn _ _ _ _ q1, sI_wIn _ _ _ _ q2]
  have r2 : ∀ k, k < 5 → sI σ9 2 k = sI σm 19 k := fun k hk => by rw [j3 2 (by decide), i3 2 (by decide), h3 2 (by decide), g3 2 (by decide), f3 2 (by decide), e3 2 (by decide), c3 2 (by decide), b3 2 (by decide), a4, if_pos hk, n3 19 (by decide)]
  have r3 : ∀ k, k < 5 → sI σ9 3 k = sI σm 20 k := fun k hk => by rw [j3 3 (by decide), i3 3 (by decide), h3 3 (by decide), g3 3 (by decide), f3 3 (by decide), e3 3 (by decide), c3 3 (by decide), b4, if_pos hk, a3 20 (by decide), n3 20 (by decide)]
  have r15 : ∀ k, k < 4 → sI σ9 15 k = sI σm 21 k := fun k hk => by rw [j3 15 (by decide), i3 15 (by decide), h3 15 (by decide), g3 15 (by decide), f3 15 (by decide), e3 15 (by decide), c4, if_pos hk, b3 21 (by decide), a3 21 (by decide), n3 21 (by decide)]
  have r5 : ∀ k, k < 4 → sI σ9 5 k = sI σm 22 k := fun k hk => by rw [j3 5 (by decide), i3 5 (by decide), h3 5 (by decide), g3 5 (by decide), f3 5 (by decide), e4, if_pos hk, c3 22 (by decide), b3 22 (by decide), a3 22 (by decide), n3 22 (by decide)]
  have r6 : ∀ k, k < 4 → sI σ9 6 k = sI σm 23 k := fun k hk => by rw [j3 6 (by decide), i3 6 (by decide), h3 6 (by decide), g3 6 (by decide), f4, if_pos hk, e3 23 (by decide), c3 23 (by decide), b3 23 (by decide), a3 23 (by decide), n3 23 (by decide)]
  have r7 : ∀ k, k < 4 → sI σ9 7 k = sI σm 24 k := fun k hk => by rw [j3 7 (by decide), i3 7 (by decide), h3 7 (by decide), g4, if_pos hk, f3 24 (by decide), e3 24 (by decide), c3 24 (by decide), b3 24 (by decide), a3 24 (by decide), n3 24 (by decide)]
  have r8 : ∀ k, k < 6 → sI σ9 8 k = sI σm 25 k := fun k hk => by rw [j3 8 (by decide), i3 8 (by decide), h4, if_pos hk, g3 25 (by decide), f3 25 (by decide), e3 25 (by decide), c3 25 (by decide), b3 25 (by decide), a3 25 (by decide), n3 25 (by decide)]
  have r16 : ∀ k, k < 6 → sI σ9 16 k = sI σm 26 k := fun k hk => by rw [j3 16 (by decide), i4, if_pos hk, h3 26 (by decide), g3 26 (by decide), f3 26 (by decide), e3 26 (by decide), c3 26 (by decide), b3 26 (by decide), a3 26 (by decide), n3 26 (by decide)]
  have r11 : ∀ k, k < 6 → sI σ9 11 k = sI σm 27 k := fun k hk => by rw [j4, if_pos hk, i3 27 (by decide), h3 27 (by decide), g3 27 (by decide), f3 27 (by decide), e3 27 (by decide), c3 27 (by decide), b3 27 (by decide), a3 27 (by decide), n3 27 (by decide)]
  have r1 : ∀ i, sI σ9 1 i = if i < 8 then (if i < 5 then sI σm 18 i else 0) else sI σm 1 i := fun i => by
    rw [j3 1 (by decide), i3 1 (by decide), h3 1 (by decide), g3 1 (by decide), f3 1 (by decide), e3 1 (by decide), c3 1 (by decide), b3 1 (by decide), a3 1 (by decide), n4]
    exact ite_iff (by omega) _ _
  have r17 : sI τ 17 0 = nI (S 3 4) := by rw [hτ, sI_wIn _ _ _ _ (by decide), sI_wIs, keep 18 (by decide) (by decide) (by decide) (by decide) (by decide) (by decide) (by decide) (by decide) (by decide) (by decide)]; exact d5
  obtain ⟨σ10, k1, k2, k3⟩ := m_begins (σ := τ) (P := P) (N := N) (S := S) (fun p hp => by rw [t 15 (by decide) (by decide), r15 p (by omega)]; exact (d10 p hp).1) (fun w hw => by rw [t 16 (by decide) (by decide), r16 w (by omega)]; exact (d11 w hw).2.1) r17 w3 w4 z3 z5 z1
  have u : ∀ b, b ≠ 0 → b ≠ 1 → b ≠ 4 → b ≠ 9 → b ≠ 10 → b ≠ 17 → sI (wI σ10 0 51 0) b = sI σ9 b := fun b q0 q1 q4 q9 q10 q17 => by rw [sI_wIn _ _ _ _ q0, k2.2.1 b q1 q4 q9 q10, t b q0 q17]
  have u1 : ∀ j, j ≠ 1 → j ≠ 5 → j ≠ 6 → sI (wI σ10 0 51 0) 1 j = sI σ9 1 j := fun j q1 q5 q6 => by rw [sI_wIn _ _ _ _ (by decide), k2.2.2 j q1 q5 q6, t 1 (by decide) (by decide)]
  have u0 : ∀ j, sI (wI σ10 0 51 0) 0 j = if j = 51 then 0 else if j = 28 then 1 else sI σm 0 j := fun j => by
    rw [sI_r, k2.2.1 0 (by decide) (by decide) (by decide) (by decide), hτ, sI_r, sI_wIn _ _ _ _ (by decide), keep 0 (by decide) (by decide) (by decide) (by decide) (by decide) (by decide) (by decide) (by decide) (by decide) (by decide)]
  refine ⟨wI σ10 0 51 0, ?_, ⟨⟨by rw [u1 2 (by decide) (by decide) (by decide), r1]; exact d6, by rw [u1 3 (by decide) (by decide) (by decide), r1]; exact d7, by rw [u1 4 (by decide) (by decide) (by decide), r1]; exact d8, by rw [u1 0 (by decide) (by decide) (by decide), r1]; exact d4⟩, fun k hk => ?_, fun p hp => ?_, fun w hw => ?_⟩, ?_, fun p hp => ?_, fun w hw => ?_, ?_, by rw [u0]; rfl, by rw [u0]; rfl, fun j q1 q2 => by rw [u0, if_neg q2, if_neg q1], by rw [u1 7 (by decide) (by decide) (by decide), r1]; rfl, fun j hj => by rw [u1 j (by omega) (by omega) (by omega), r1, if_neg (by omega)], fun b hb => ?_⟩
  · rw [show (0 : Int32) = nI 0 from rfl, n1]
    unfold duE
    rw [a1, bnd, b1, bnd, c1, bnd, e1, bnd, f1, bnd, g1, bnd, h1, bnd, i1, bnd, j1, bnd, ← hτ, k1, bnd, u1 4 (by decide) (by decide) (by decide), r1]
    show some (sI σm 18 4, wI σ10 0 51 0) = _
    rw [d8]; rfl
  · rw [u 2 (by decide) (by decide) (by decide) (by decide) (by decide) (by decide), u 3 (by decide) (by decide) (by decide) (by decide) (by decide) (by decide), r2 k (by omega), r3 k (by omega)]; exact d9 k hk
  · rw [u 5 (by decide) (by decide) (by decide) (by decide) (by decide) (by decide), u 6 (by decide) (by decide) (by decide) (by decide) (by decide) (by decide), u 7 (by decide) (by decide) (by decide) (by decide) (by decide) (by decide), r5 p (by omega), r6 p (by omega), r7 p (by omega)]; exact (d10 p hp).2
  · rw [u 8 (by decide) (by decide) (by decide) (by decide) (by decide) (by decide), u 11 (by decide) (by decide) (by decide) (by decide) (by decide) (by decide), r8 w (by omega), r11 w (by omega)]; exact ⟨(d11 w hw).1, (d11 w hw).2.2⟩
  · exact k3.cg w3 w4 (fun j _ => by rw [sI_wIn _ _ _ _ (by decide)]) (fun j _ => by rw [sI_wIn _ _ _ _ (by decide)]) (fun j _ => by rw [sI_wIn _ _ _ _ (by decide)]) (fun j _ => by rw [sI_wIn _ _ _ _ (by decide)])
  · rw [u 15 (by decide) (by decide) (by decide) (by decide) (by decide) (by decide), r15 p (by omega)]; exact (d10 p hp).1
  · rw [u 16 (by decide) (by decide) (by decide) (by decide) (by decide) (by decide), r16 w (by omega)]; exact (d11 w hw).2.1
  · rw [sI_wIn _ _ _ _ (by decide), k2.2.1 17 (by decide) (by decide) (by decide) (by decide)]; exact r17
  · rw [u b (by omega) (by omega) (by omega) (by omega) (by omega) (by omega), keep b (by omega) (by omega) (by omega) (by omega) (by omega) (by omega) (by omega) (by omega) (by omega) (by omega)]
/-- the world of a duchy just told -/
def wTold (W : Wd) (K P N : Nat) (L S : Row2) : Wd := (fun j => if j = 0 then 1 else if j = 1 then K else if j = 2 then P else if j = 3 then N else if j = 4 then wc W 4 else if j = 5 then wc W 5 else 0, L, S, S, wQ W, wG W)
theorem s_2 : StpK 2 := fun t a σx σm _ hI0 => by
  have hF := FU_big
  have hI1 := hI0
  obtain ⟨ow, W, Wi, RR, T, len, h1, h2, h3⟩ := hI0
  have hW := h3.2.2.1.1
  have hl := h3.1.1
  have hT := h3.1.2
  show ∃ r σx' σm', f_X11_duchy σx = some (r, σx') ∧ f_X12_duchy σm = some (r, σm') ∧ Inv (t + 1) σx' σm'
  -- the class begins
  obtain ⟨σx0, hx0⟩ : ∃ σ, σ = wI (wI σx 16 1 (0 : Int32)) 16 6 (0 : Int32) := ⟨_, rfl⟩
  obtain ⟨σx1, a1, a2, a3, a4, a5⟩ := x_clear σx0
  have ax : ∀ b, (b < 4 ∨ 16 < b) → sI σx1 b = sI σx b := fun b hb => by rw [a3 b (by omega), hx0, sI_wIn _ _ _ _ (by omega), sI_wIn _ _ _ _ (by omega)]
  have a16 : sI σx1 16 1 = nI 0 ∧ sI σx1 16 6 = 0 := by
    rw [a3 16 (by decide), hx0]
    exact ⟨by rw [sI_wIk _ _ _ _ (by decide), sI_wIs]; rfl, sI_wIs _ _ _ _⟩
  have smx : Sm σx σx1 := by
    have : Sm σx σx0 := by rw [hx0]; exact ⟨rfl, rfl, rfl⟩
    exact this.trans a2
  -- the reference begins
  obtain ⟨σm0, hm0⟩ : ∃ σ, σ = wI (wI (wI (wI (wI σm 0 30 (0 : Int32)) 0 31 (0 : Int32)) 0 34 (0 : Int32)) 0 35 (0 : Int32)) 0 36 (0 : Int32) := ⟨_, rfl⟩
  have m0 : ∀ j, j ≠ 30 → j ≠ 31 → j ≠ 34 → j ≠ 35 → j ≠ 36 → sI σm0 0 j = sI σm 0 j := fun j q1 q2 q3 q4 q5 => by rw [hm0, sI_wIk _ _ _ _ q5, sI_wIk _ _ _ _ q4, sI_wIk _ _ _ _ q3, sI_wIk _ _ _ _ q2, sI_wIk _ _ _ _ q1]
  have mn : ∀ b, b ≠ 0 → sI σm0 b = sI σm b := fun b hb => by rw [hm0, sI_wIn _ _ _ _ hb, sI_wIn _ _ _ _ hb, sI_wIn _ _ _ _ hb, sI_wIn _ _ _ _ hb, sI_wIn _ _ _ _ hb]
  have m30 : sI σm0 0 30 = nI 0 := by rw [hm0, sI_wIk _ _ _ _ (by decide), sI_wIk _ _ _ _ (by decide), sI_wIk _ _ _ _ (by decide), sI_wIk _ _ _ _ (by decide), sI_wIs]; rfl
  have m31 : sI σm0 0 31 = 0 := by rw [hm0, sI_wIk _ _ _ _ (by decide), sI_wIk _ _ _ _ (by decide), sI_wIk _ _ _ _ (by decide), sI_wIs]
  obtain ⟨σm1, b1, b2, b3, b4⟩ := m_zero18 5 0 FU σm0 (by decide) (by omega)
  have z18 : ∀ j, j < 5 → sI σm1 18 j = 0 := fun j hj => by rw [b4, if_pos (by omega)]
  have L0 : LSy 16 T len 0 σx1 σm1 := by
    refine ⟨⟨by rw [ax 1 (by decide)]; exact h1.2.1.1, by rw [ax 2 (by decide)]; exact h1.2.1.2⟩, ⟨?_, ?_⟩, by omega, a16.1, ?_, a16.2, ?_⟩
    · rw [b3 0 (by decide), m0 29 (by decide) (by decide) (by decide) (by decide) (by decide)]; exact h2.1.1
    · rw [b3 28 (by decide), mn 28 (by decide)]; exact h2.1.2
    · rw [b3 0 (by decide)]; exact m30
    · rw [b3 0 (by decide)]; exact m31
  have D0 : Dft 0 0 0 0 (fun _ _ => 0) (fun _ _ => 0) σx1 σm1 := by
    refine ⟨⟨a4 0 (by decide), ⟨⟨a4 2 (by decide), a4 3 (by decide), a4 4 (by decide), a4 1 (by decide)⟩, fun k hk => absurd hk (Nat.not_lt_zero _), fun k hk => absurd hk (Nat.not_lt_zero _), fun k hk => absurd hk (Nat.not_lt_zero _)⟩, a5⟩, ⟨z18 0 (by decide), z18 1 (by decide), z18 2 (by decide), z18 3 (by decide), z18 4 (by decide)⟩, fun k hk => absurd hk (Nat.not_lt_zero _), fun k hk => absurd hk (Nat.not_lt_zero _), fun k hk => absurd hk (Nat.not_lt_zero _)⟩
  have W00 : WD 0 0 0 0 (fun _ _ => 0) (fun _ _ => 0) := by
    refine ⟨Nat.zero_le _, ⟨⟨Nat.zero_le _, Nat.zero_le _, Nat.zero_le _, Nat.zero_le _⟩, fun k hk => absurd hk (Nat.not_lt_zero _), fun k hk => absurd hk (Nat.not_lt_zero _), fun k hk => absurd hk (Nat.not_lt_zero _)⟩, fun k hk => absurd hk (Nat.not_lt_zero _), ⟨fun w hw => ⟨Nat.zero_le _, fun _ => rfl⟩, fun p hp => ⟨Nat.zero_le _, fun _ => rfl⟩, ⟨show (0 : Nat) < 64 by decide, fun w hw _ => by show 0 / 2 ^ w % 2 = 0; rw [Nat.zero_div]⟩, Nat.zero_le _, Nat.zero_le _⟩, rfl, rfl, fun _ _ => rfl⟩
  obtain ⟨f, σx2, σm2, c1, c2, c3, c4, c5, c6, c7⟩ := d_loop hl hT 40 0 FU FU 0 0 0 0 0 _ _ σx1 σm1 (by omega) (by omega) (by omega) L0 D0 W00 rfl
  have hxr : f_X2_read σx = some (nI f, σx2) := by
    unfold f_X2_read b_X2_read_0 f_X4_restart b_X4_restart_0
    rw [bnd, ← hx0, a1, bnd]; exact c1
  have hmr : f_X12_readsAll σm = some (wI σm2 0 29 0) := by
    unfold f_X12_readsAll b_X12_readsAll_0 f_X12_starts b_X12_starts_0
    rw [bnd, ← hm0, show (0 : Int32) = nI 0 from rfl, b1]; exact c2
  -- what stands behind the reading
  have hIX : IX t ow W Wi RR (fun _ => 0) 0 (wI σx2 1 1 0) := h1.tp (c3.1.1.trans smx.1) (c3.1.2.1.trans smx.2.1) (fun b _ => by show sR σx2 b = _; rw [c3.1.2.2, smx.2.2]) (fun b hb => by rw [sI_wIn _ _ _ _ (by omega), c3.2 b (by omega), ax b (by omega)]) (by rw [sI_wIn _ _ _ _ (by decide), c3.2 0 (by decide), ax 0 (by decide)]) (sI_wIs _ _ _ _) (fun i hi => absurd hi (Nat.not_lt_zero _))
  have mrow : ∀ b, b ≠ 0 → (b < 18 ∨ 27 < b) → sI (wI σm2 0 29 0) b = sI σm b := fun b q0 q1 => by rw [sI_wIn _ _ _ _ q0, c4.2.1 b q0 q1, b3 b (by omega), mn b q0]
  have m0j : ∀ j, (j = 28 ∨ j = 33 ∨ j = 38 ∨ j = 51) → sI (wI σm2 0 29 0) 0 j = sI σm 0 j := fun j hj => by rw [sI_wIk _ _ _ _ (by omega), c4.2.2 j (by omega) (by omega), b3 0 (by decide), m0 j (by omega) (by omega) (by omega) (by omega) (by omega)]
  have hIM : IM W Wi RR (fun _ => 0) 0 (wI σm2 0 29 0) := h2.tp h3 m0j (fun b hb => mrow b (by omega) (by omega)) (sI_wIs _ _ _ _) (fun i hi => absurd hi (Nat.not_lt_zero _))
  have hOK : OKW W Wi RR (fun _ => 0) 0 := ⟨⟨by omega, fun i hi => absurd hi (Nat.not_lt_zero _)⟩, h3.2⟩
  have e31 : sI (wI σm2 0 29 0) 0 31 = nI f := by rw [sI_wIk _ _ _ _ (by decide)]; exact c6
  unfold f_X11_duchy b_X11_duchy_0 f_X12_duchy b_X12_duchy_0
  rw [hxr, hmr, bnd, bnd]
  show ∃ r σx' σm', (if nI f = 0 then (f_X10_settle (wI σx2 1 1 0)).bind (fun r6 => some (sI r6 23 4, r6)) else some ((-2 : Int32) - nI f, wI σx2 1 1 0)) = some (r, σx') ∧ _
  rw [q_zero (by omega), e31]
  by_cases cf : f = 0
  · rw [if_pos cf, if_pos (show nI f ≤ 0 by rw [cf]; decide)]
    obtain ⟨K, P, N, L, S, D, hD⟩ := c7 cf
    have D' : Dft 1 K P N L S (wI σx2 1 1 0) (wI σm2 0 29 0) := D.fr (fun b q1 q2 => sI_wIn _ _ _ _ (by omega)) (fun b q1 q2 => sI_wIn _ _ _ _ (by omega))
    have hD0 := hD
    obtain ⟨_, ⟨⟨w2, w3, w4, w5⟩, w6, w7, w8⟩, w9, w10, z5, z3, z1⟩ := hD
    obtain ⟨σm3, k1, k2, k3, k4, k5, k6, k7, k8, k9, k10, k11, k12⟩ := m_settle D' hD0
    obtain ⟨σx3, l1, l2, l3, l4, l5, l6⟩ := x_copyLand (a0 := 23) (a1 := 4) (σ := wI σx2 1 1 0) D'.1.1 (by omega) D'.1.2.1 D'.1.2.2 w2 w3 w4 (by decide)
    have s12 : SX 12 σx3 S := D'.1.2.2.fr (fun b q1 q2 => l6 b (by omega))
    obtain ⟨σx4, p1, p2, p3⟩ := x_copy (a0 := 35) s12 (by decide)
    obtain ⟨σx5, h5⟩ : ∃ σ, σ = wI (wI σx4 22 4 (0 : Int32)) 22 8 (0 : Int32) := ⟨_, rfl⟩
    have hset : f_X10_settle (wI σx2 1 1 0) = some σx5 := by
      unfold f_X10_settle b_X10_settle_0
      rw [l1, bnd, p1, bnd, h5]
    have e4 : ∀ b, (b < 22 ∨ 39 ≤ b) → sI σx5 b = sI (wI σx2 1 1 0) b := fun b hb => by rw [h5, sI_wIn _ _ _ _ (by omega), sI_wIn _ _ _ _ (by omega), p3.2 b (by omega), l6 b (by omega)]
    have e22 : ∀ j, j ≠ 4 → j ≠ 8 → sI σx5 22 j = sI (wI σx2 1 1 0) 22 j := fun j q1 q2 => by rw [h5, sI_wIk _ _ _ _ q2, sI_wIk _ _ _ _ q1, p3.2 22 (by decide), l6 22 (by decide)]
    have e23 : ∀ b, 23 ≤ b → b ≤ 34 → sI σx5 b = sI σx3 b := fun b q1 q2 => by rw [h5, sI_wIn _ _ _ _ (by omega), sI_wIn _ _ _ _ (by omega), p3.2 b (by omega)]
    have sm5 : Sm (wI σx2 1 1 0) σx5 := by
      have : Sm σx4 σx5 := by rw [h5]; exact ⟨rfl, rfl, rfl⟩
      exact l5.trans (p3.1.trans this)
    have e234 : sI σx5 23 4 = nI N := by rw [e23 23 (by decide) (by decide)]; exact l3.1.2.2.1
    rw [hset, bnd, e234]
    obtain ⟨⟨y1, y2⟩, y3, y4, ⟨y5, y6, y7, y8⟩, y9, np, g1, g2, g3, g4⟩ := hIX.2.2.2.1
    obtain ⟨⟨v1, v2⟩, v3, v4, ⟨v7, v8, v9, v10⟩, v11, v12⟩ := hIM.2.2.1
    refine ⟨nI N, σx5, σm3, rfl, ?_, ow, wTold W K P N L S, Wi, RR, fun _ => 0, 0, hIX.w h3.2.1.1 ⟨⟨?_, ?_⟩, ?_, ?_, ⟨?_, ?_, ?_, ?_⟩, fun i hi => absurd hi (Nat.not_lt_zero _), np, g1, ?_, ?_, fun i hi => absurd hi (Nat.not_lt_zero _)⟩ (Nat.le_of_eq sm5.1.symm) ?_ (fun p _ => by rw [sm5.2.1]) (fun b _ _ _ => by rw [sm5.2.2]) (e4 1 (by decide)) (e4 2 (by decide)) (by rw [e4 0 (by decide)]) (fun p q1 _ _ => e4 p (by omega)) (fun _ _ => rfl), hIM.w (fun k V hk hV => (h3.2.2.2 k V hk hV).1) ⟨⟨?_, k2⟩, k3, ⟨k4, k5, k6⟩, ⟨?_, ?_, ?_, ?_⟩, fun i hi => absurd hi (Nat.not_lt_zero _), fun i hi => absurd hi (Nat.not_lt_zero _)⟩ (fun j hj => k9 j (by omega) (by omega)) (fun b hb => k12 b (by omega)) (fun j _ => by rw [k12 45 (by decide)]), hOK.1, hOK.2.1, ⟨?_, h3.2.2.1.2⟩, hOK.2.2.2⟩
    · exact k1
    · rw [e23 _ (by decide) (by decide)]; exact l2
    · exact l3.fr (fun b q1 q2 => e23 b (by omega) (by omega))
    · have := l4.fr (σ' := σx5) (fun b q1 q2 => e23 b (by omega) (by omega))
      exact this
    · exact p2.fr (fun b q1 q2 => by rw [h5, sI_wIn _ _ _ _ (by omega), sI_wIn _ _ _ _ (by omega)])
    · rw [e22 9 (by decide) (by decide)]; exact y5
    · rw [e22 10 (by decide) (by decide)]; exact y6
    · rw [h5, sI_wIs]; rfl
    · rw [h5, sI_wIk _ _ _ _ (by decide), sI_wIs]; rfl
    · rw [e22 3 (by decide) (by decide)]; exact g2
    · intro s hs b hb
      rw [sm5.2.2] at hb
      obtain ⟨q1, q2, q3⟩ := g3 s hs b hb
      exact ⟨q1, ⟨by rw [sm5.1]; exact q2.1, fun i hi => by rw [sm5.2.1]; exact q2.2 i hi⟩, q3⟩
    · rw [sm5.1]; have := hIX.1.2; omega
    · exact k7
    · rw [k11 9 (by decide)]; exact v7
    · rw [k11 8 (by decide)]; exact v8
    · exact k10
    · exact k8
    · obtain ⟨⟨u1, u2, u3, u4, u5⟩, _⟩ := hW
      exact ⟨⟨Nat.le_refl _, u2, u3, by show 0 ≤ 10; omega, by show 0 ≤ 20; omega⟩, ⟨⟨⟨w2, w3, w4, w5⟩, w6, w7, w8⟩, w9⟩, ⟨w10, by show S 3 5 ≤ 999; omega⟩, ⟨w10, z5, z3, z1⟩, fun i hi => absurd hi (Nat.not_lt_zero _), fun i hi => absurd hi (Nat.not_lt_zero _)⟩
  · rw [if_neg cf, if_neg (show ¬ nI f ≤ 0 by rw [nl_le (by decide) (by omega)]; omega)]
    exact ⟨_, _, _, rfl, rfl, Inv.up (t := t) ⟨ow, W, Wi, RR, _, _, hIX, hIM, hOK⟩ (by omega)⟩
end
