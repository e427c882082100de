/-! ===== pure: the reference's images ===== -/
section
theorem ofN (n : Nat) : Int32.ofNat n = nI n := rfl
theorem keep_loop {a n1 i : Nat} (ha0 : a ≠ 0) (ha : a ≠ 45) (hi : i + n1 ≤ 2750) (hn1 : n1 ≤ 400) : ∀ (j k n : Nat) (σ : MS), k + j = n1 → j < n → sI σ 0 62 = nI (i + k) → sI σ 0 63 = 0 →
    ∃ σ', b_X12_carryRow_2 a n1 n (nI k) σ = some σ' ∧ Sm σ σ' ∧ sI σ' 0 62 = nI (i + n1) ∧ (∀ j, j ≠ 62 → sI σ' 0 j = sI σ 0 j) ∧ (∀ b, b ≠ 0 → b ≠ 45 → sI σ' b = sI σ b) ∧ (∀ j, sI σ' 45 j = if i + k ≤ j ∧ j < i + n1 then sI σ a (j - i) else sI σ 45 j)
  | 0, k, n + 1, σ, hk, _, h1, h2 => by
    refine ⟨σ, ?_, Sm.refl σ, by rw [h1, show k = n1 by omega], fun _ _ => rfl, fun _ _ _ => rfl, fun j => by rw [if_neg (by omega)]⟩
    unfold b_X12_carryRow_2
    rw [ofN, q_le (by omega) (by omega), if_pos (by omega)]
  | j + 1, k, n + 1, σ, hk, hj, h1, h2 => by
    conv => enter [1, σ', 1]; unfold b_X12_carryRow_2 b_X12_carryRow_42
    have e1 : sI (wI σ 45 (i + k) (sI σ a k)) 0 62 = nI (i + k) := by rw [sI_wIn _ _ _ _ (by decide)]; exact h1
    simp only [ofN, q_le (show n1 < 2 ^ 31 by omega) (show k < 2 ^ 31 by omega), if_neg (show ¬ n1 ≤ k by omega), if_pos h2, chk_t (in_n (show k < n1 by omega) (show n1 < 2 ^ 31 by omega)), h1, chk_t (in_n (show i + k < 2750 by omega) (by decide)), ix_n (show k < 2 ^ 31 by omega), ix_n (show i + k < 2 ^ 31 by omega), e1, nI_1]
    obtain ⟨σ', g1, g2, g3, g4, g5, g6⟩ := keep_loop ha0 ha hi hn1 j (k + 1) n (wI (wI σ 45 (i + k) (sI σ a k)) 0 62 (nI (i + k + 1))) (by omega) (by omega) (by rw [sI_wIs]; rfl) (by rw [sI_wIk _ _ _ _ (by decide), sI_wIn _ _ _ _ (by decide)]; exact h2)
    refine ⟨σ', g1, ⟨g2.1, g2.2.1, g2.2.2⟩, g3, fun j hj => ?_, fun b hb0 hb => ?_, fun j => ?_⟩
    · rw [g4 j hj, sI_wIk _ _ _ _ hj, sI_wIn _ _ _ _ (by decide)]
    · rw [g5 b hb0 hb, sI_wIn _ _ _ _ hb0, sI_wIn _ _ _ _ hb]
    · rw [g6 j, sI_wIn _ _ _ _ ha0, sI_wIn _ _ _ _ ha, sI_wIn _ _ _ _ (by decide)]
      by_cases e : j = i + k
      · subst e
        rw [if_neg (by omega), if_pos (by omega), sI_wIs, Nat.add_sub_cancel_left]
      · rw [sI_wIk _ _ _ _ e]
        by_cases q : i + k ≤ j ∧ j < i + n1
        · rw [if_pos q, if_pos (by omega)]
        · rw [if_neg q, if_neg (by omega)]
  | _, _, 0, _, _, hn, _, _ => absurd hn (Nat.not_lt_zero _)
theorem m_keep {a n1 i : Nat} {σ : MS} (ha0 : a ≠ 0) (ha : a ≠ 45) (hi : i + n1 ≤ 2750) (hn1 : n1 ≤ 400) (h1 : sI σ 0 62 = nI i) (h2 : sI σ 0 63 = 0) :
    ∃ σ', f_X12_carryRow a n1 σ = some σ' ∧ Sm σ σ' ∧ sI σ' 0 62 = nI (i + n1) ∧ (∀ j, j ≠ 62 → sI σ' 0 j = sI σ 0 j) ∧ (∀ b, b ≠ 0 → b ≠ 45 → sI σ' b = sI σ b) ∧ (∀ j, sI σ' 45 j = if i ≤ j ∧ j < i + n1 then sI σ a (j - i) else sI σ 45 j) :=
  keep_loop ha0 ha hi hn1 n1 0 FU σ (by omega) (by have := FU_big; omega) h1 h2
theorem back_loop {a n1 i : Nat} (ha0 : a ≠ 0) (ha : a ≠ 45) (hi : i + n1 ≤ 2750) (hn1 : n1 ≤ 400) : ∀ (j k n : Nat) (σ : MS), k + j = n1 → j < n → sI σ 0 62 = nI (i + k) → sI σ 0 63 = 1 →
    ∃ σ', b_X12_carryRow_2 a n1 n (nI k) σ = some σ' ∧ Sm σ σ' ∧ sI σ' 0 62 = nI (i + n1) ∧ (∀ j, j ≠ 62 → sI σ' 0 j = sI σ 0 j) ∧ (∀ b, b ≠ 0 → b ≠ a → sI σ' b = sI σ b) ∧ (∀ j, sI σ' a j = if k ≤ j ∧ j < n1 then sI σ 45 (i + j) else sI σ a j)
  | 0, k, n + 1, σ, hk, _, h1, h2 => by
    refine ⟨σ, ?_, Sm.refl σ, by rw [h1, show k = n1 by omega], fun _ _ => rfl, fun _ _ _ => rfl, fun j => by rw [if_neg (by omega)]⟩
    unfold b_X12_carryRow_2
    rw [ofN, q_le (by omega) (by omega), if_pos (by omega)]
  | j + 1, k, n + 1, σ, hk, hj, h1, h2 => by
    conv => enter [1, σ', 1]; unfold b_X12_carryRow_2 b_X12_carryRow_42
    have h2' : ¬ sI σ 0 63 = 0 := by rw [h2]; decide
    have e1 : sI (wI σ a k (sI σ 45 (i + k))) 0 62 = nI (i + k) := by rw [sI_wIn _ _ _ _ (fun e => ha0 e.symm)]; exact h1
    simp only [ofN, q_le (show n1 < 2 ^ 31 by omega) (show k < 2 ^ 31 by omega), if_neg (show ¬ n1 ≤ k by omega), if_neg h2', chk_t (in_n (show k < n1 by omega) (show n1 < 2 ^ 31 by omega)), h1, chk_t (in_n (show i + k < 2750 by omega) (by decide)), ix_n (show k < 2 ^ 31 by omega), ix_n (show i + k < 2 ^ 31 by omega), e1, nI_1]
    obtain ⟨σ', g1, g2, g3, g4, g5, g6⟩ := back_loop ha0 ha hi hn1 j (k + 1) n (wI (wI σ a k (sI σ 45 (i + k))) 0 62 (nI (i + k + 1))) (by omega) (by omega) (by rw [sI_wIs]; rfl) (by rw [sI_wIk _ _ _ _ (by decide), sI_wIn _ _ _ _ (fun e => ha0 e.symm)]; exact h2)
    refine ⟨σ', g1, ⟨g2.1, g2.2.1, g2.2.2⟩, g3, fun j hj => ?_, fun b hb0 hb => ?_, fun j => ?_⟩
    · rw [g4 j hj, sI_wIk _ _ _ _ hj, sI_wIn _ _ _ _ (fun e => ha0 e.symm)]
    · rw [g5 b hb0 hb, sI_wIn _ _ _ _ hb0, sI_wIn _ _ _ _ hb]
    · rw [g6 j, sI_wIn _ _ _ _ (show (45 : Nat) ≠ 0 by decide), sI_wIn _ _ _ _ ha0, sI_wIn _ _ _ _ (fun e => ha e.symm)]
      by_cases e : j = k
      · subst e
        rw [if_neg (by omega), if_pos (by omega), sI_wIs]
      · rw [sI_wIk _ _ _ _ e]
        by_cases q : k ≤ j ∧ j < n1
        · rw [if_pos q, if_pos (by omega)]
        · rw [if_neg q, if_neg (by omega)]
  | _, _, 0, _, _, hn, _, _ => absurd hn (Nat.not_lt_zero _)
theorem m_backR {a n1 i : Nat} {σ : MS} (ha0 : a ≠ 0) (ha : a ≠ 45) (hi : i + n1 ≤ 2750) (hn1 : n1 ≤ 400) (h1 : sI σ 0 62 = nI i) (h2 : sI σ 0 63 = 1) :
    ∃ σ', f_X12_carryRow a n1 σ = some σ' ∧ Sm σ σ' ∧ sI σ' 0 62 = nI (i + n1) ∧ (∀ j, j ≠ 62 → sI σ' 0 j = sI σ 0 j) ∧ (∀ b, b ≠ 0 → b ≠ a → sI σ' b = sI σ b) ∧ (∀ j, sI σ' a j = if j < n1 then sI σ 45 (i + j) else sI σ a j) := by
  obtain ⟨σ', g1, g2, g3, g4, g5, g6⟩ := back_loop ha0 ha hi hn1 n1 0 FU σ (by omega) (by have := FU_big; omega) h1 h2
  exact ⟨σ', g1, g2, g3, g4, g5, fun j => by rw [g6 j]; exact ite_iff (by omega) _ _⟩
/-- what stands of a memory in the image that is kept for questions -/
def KB (σ0 σ : MS) : Prop := (∀ j, j < 10 → sI σ 45 (2200 + j) = sI σ0 1 j) ∧ (∀ j, j < 4 → sI σ 45 (2210 + j) = sI σ0 4 j) ∧ (∀ j, j < 6 → sI σ 45 (2214 + j) = sI σ0 9 j) ∧ (∀ j, j < 6 → sI σ 45 (2220 + j) = sI σ0 10 j)
/-- alike but for the image that is kept for questions, and two marks -/
def KF (σ σ' : MS) : Prop := Sm σ σ' ∧ (∀ j, j ≠ 62 → j ≠ 63 → sI σ' 0 j = sI σ 0 j) ∧ (∀ b, b ≠ 0 → b ≠ 45 → sI σ' b = sI σ b) ∧ (∀ j, j < 2200 → sI σ' 45 j = sI σ 45 j)
theorem m_keepsAll (σ : MS) : ∃ σ', f_X12_keepsAll σ = some σ' ∧ KF σ σ' ∧ KB σ σ' := by
  obtain ⟨σ1, a1, a2, a3, a4, a5, a6⟩ := m_keep (a := 1) (n1 := 10) (i := 2200) (σ := wI (wI σ 0 62 (nI 2200)) 0 63 0) (by decide) (by decide) (by decide) (by decide) (by rw [sI_wIk _ _ _ _ (by decide), sI_wIs]) (by rw [sI_wIs])
  obtain ⟨σ2, b1, b2, b3, b4, b5, b6⟩ := m_keep (a := 4) (n1 := 4) (i := 2210) (σ := σ1) (by decide) (by decide) (by decide) (by decide) a3 (by rw [a4 63 (by decide), sI_wIs])
  obtain ⟨σ3, c1, c2, c3, c4, c5, c6⟩ := m_keep (a := 9) (n1 := 6) (i := 2214) (σ := σ2) (by decide) (by decide) (by decide) (by decide) b3 (by rw [b4 63 (by decide), a4 63 (by decide), sI_wIs])
  obtain ⟨σ4, d1, d2, d3, d4, d5, d6⟩ := m_keep (a := 10) (n1 := 6) (i := 2220) (σ := σ3) (by decide) (by decide) (by decide) (by decide) c3 (by rw [c4 63 (by decide), b4 63 (by decide), a4 63 (by decide), sI_wIs])
  have r : ∀ b, b ≠ 0 → sI (wI (wI σ 0 62 (nI 2200)) 0 63 0) b = sI σ b := fun b hb => by rw [sI_wIn _ _ _ _ hb, sI_wIn _ _ _ _ hb]
  refine ⟨σ4, ?_, ⟨(((a2.trans b2).trans c2).trans d2), fun j h1 h2 => ?_, fun b h1 h2 => ?_, fun j hj => ?_⟩, fun j hj => ?_, fun j hj => ?_, fun j hj => ?_, fun j hj => ?_⟩
  · unfold f_X12_keepsAll b_X12_keepsAll_0 f_X12_carriesAll b_X12_carriesAll_0
    rw [chk_t (by decide), show (550 : Int32) * 4 = nI 2200 from by decide, a1, bnd, b1, bnd, c1, bnd, d1, bnd, if_pos (by decide)]
    rfl
  · rw [d4 j h1, c4 j h1, b4 j h1, a4 j h1, sI_wIk _ _ _ _ h2, sI_wIk _ _ _ _ h1]
  · rw [d5 b h1 h2, c5 b h1 h2, b5 b h1 h2, a5 b h1 h2, r b h1]
  · rw [d6, if_neg (by omega), c6, if_neg (by omega), b6, if_neg (by omega), a6, if_neg (by omega), r 45 (by decide)]
  · rw [d6, if_neg (by omega), c6, if_neg (by omega), b6, if_neg (by omega), a6, if_pos (by omega), Nat.add_sub_cancel_left, r 1 (by decide)]
  · rw [d6, if_neg (by omega), c6, if_neg (by omega), b6, if_pos (by omega), Nat.add_sub_cancel_left, a5 4 (by decide) (by decide), r 4 (by decide)]
  · rw [d6, if_neg (by omega), c6, if_pos (by omega), Nat.add_sub_cancel_left, b5 9 (by decide) (by decide), a5 9 (by decide) (by decide), r 9 (by decide)]
  · rw [d6, if_pos (by omega), Nat.add_sub_cancel_left, c5 10 (by decide) (by decide), b5 10 (by decide) (by decide), a5 10 (by decide) (by decide), r 10 (by decide)]
/-- laid back: the state is what was kept -/
theorem m_laysBack {σ0 σ : MS} (h : KB σ0 σ) : ∃ σ', f_X12_laysBack σ = some σ' ∧ Sm σ σ' ∧ (∀ j, j ≠ 62 → j ≠ 63 → sI σ' 0 j = sI σ 0 j) ∧ (∀ b, b ≠ 0 → b ≠ 1 → b ≠ 4 → b ≠ 9 → b ≠ 10 → sI σ' b = sI σ b) ∧ (∀ j, j < 10 → sI σ' 1 j = sI σ0 1 j) ∧ (∀ j, j < 4 → sI σ' 4 j = sI σ0 4 j) ∧ (∀ j, j < 6 → sI σ' 9 j = sI σ0 9 j) ∧ (∀ j, j < 6 → sI σ' 10 j = sI σ0 10 j) := by
  obtain ⟨σ1, a1, a2, a3, a4, a5, a6⟩ := m_backR (a := 1) (n1 := 10) (i := 2200) (σ := wI (wI σ 0 62 (nI 2200)) 0 63 1) (by decide) (by decide) (by decide) (by decide) (by rw [sI_wIk _ _ _ _ (by decide), sI_wIs]) (by rw [sI_wIs])
  obtain ⟨σ2, b1, b2, b3, b4, b5, b6⟩ := m_backR (a := 4) (n1 := 4) (i := 2210) (σ := σ1) (by decide) (by decide) (by decide) (by decide) a3 (by rw [a4 63 (by decide), sI_wIs])
  obtain ⟨σ3, c1, c2, c3, c4, c5, c6⟩ := m_backR (a := 9) (n1 := 6) (i := 2214) (σ := σ2) (by decide) (by decide) (by decide) (by decide) b3 (by rw [b4 63 (by decide), a4 63 (by decide), sI_wIs])
  obtain ⟨σ4, d1, d2, d3, d4, d5, d6⟩ := m_backR (a := 10) (n1 := 6) (i := 2220) (σ := σ3) (by decide) (by decide) (by decide) (by decide) c3 (by rw [c4 63 (by decide), b4 63 (by decide), a4 63 (by decide), sI_wIs])
  have r : ∀ b, b ≠ 0 → sI (wI (wI σ 0 62 (nI 2200)) 0 63 1) b = sI σ b := fun b hb => by rw [sI_wIn _ _ _ _ hb, sI_wIn _ _ _ _ hb]
  refine ⟨σ4, ?_, (((a2.trans b2).trans c2).trans d2), fun j h1 h2 => ?_, fun b h0 h1 h4 h9 h10 => ?_, fun j hj => ?_, fun j hj => ?_, fun j hj => ?_, fun j hj => ?_⟩
  · unfold f_X12_laysBack b_X12_laysBack_0 f_X12_carriesAll b_X12_carriesAll_0
    rw [chk_t (by decide), show (550 : Int32) * 4 = nI 2200 from by decide, a1, bnd, b1, bnd, c1, bnd, d1, bnd, if_pos (by decide)]
    rfl
  · rw [d4 j h1, c4 j h1, b4 j h1, a4 j h1, sI_wIk _ _ _ _ h2, sI_wIk _ _ _ _ h1]
  · rw [d5 b h0 h10, c5 b h0 h9, b5 b h0 h4, a5 b h0 h1, r b h0]
  · rw [d5 1 (by decide) (by decide), c5 1 (by decide) (by decide), b5 1 (by decide) (by decide), a6, if_pos hj, r 45 (by decide)]
    exact h.1 j hj
  · rw [d5 4 (by decide) (by decide), c5 4 (by decide) (by decide), b6, if_pos hj, a5 45 (by decide) (by decide), r 45 (by decide)]
    exact h.2.1 j hj
  · rw [d5 9 (by decide) (by decide), c6, if_pos hj, b5 45 (by decide) (by decide), a5 45 (by decide) (by decide), r 45 (by decide)]
    exact h.2.2.1 j hj
  · rw [d6, if_pos hj, c5 45 (by decide) (by decide), b5 45 (by decide) (by decide), a5 45 (by decide) (by decide), r 45 (by decide)]
    exact h.2.2.2 j hj
end
