/-! ===== pure: look, the greatest of a row ===== -/
section
theorem m_row5 (k : Int32 → Int32 → Int32 → Int32 → Int32 → MS → Option (Int32 × MS)) {σ : MS} {w : Nat} (hw : w < 6) {g : Nat → Nat} (hg : ∀ i, i < 5 → sI σ 44 (5 * w + i) = nI (g i) ∧ g i ≤ 7) {y2 y3 y4 y5 : Int32} : ∀ (j i f a : Nat), i + j = 5 → j < f → a ≤ 7 → b_X12_look_170 k f y2 y3 y4 y5 (nI w) (nI a) (nI (5 * w + i)) σ = (if y4 = (-2 : Int32) then (b_X12_look_227 k (y2) (y3) (nI w) (nI (mxU g i j a)) σ) else (if y5 ≤ nI (mxU g i j a) then (b_X12_look_235 k (y2) (y3) (y4) (y5) (nI w) σ) else (b_X12_look_227 k (y2) (y3) (nI w) (nI (mxU g i j a)) σ)))
  | 0, i, f + 1, a, hi, _, _ => by
    conv => lhs; unfold b_X12_look_170
    rw [nI_1, ln_mul, q_le (by omega) (by omega), if_pos (show 5 * (w + 1) ≤ 5 * w + i by omega)]; rfl
  | j + 1, i, f + 1, a, hi, hf, ha => by
    obtain ⟨g1, g2⟩ := hg i (by omega)
    have ih := m_row5 k hw hg (y2 := y2) (y3 := y3) (y4 := y4) (y5 := y5) j (i + 1) f (max a (g i)) (by omega) (by omega) (by omega)
    have e : mxU g i (j + 1) a = mxU g (i + 1) j (max a (g i)) := rfl
    rw [e, ← ih]
    conv => lhs; unfold b_X12_look_170 b_X12_look_205
    rw [nI_1, ln_mul, q_le (by omega) (by omega), if_neg (show ¬ 5 * (w + 1) ≤ 5 * w + i by omega), chk_t (in_n (show 5 * w + i < 30 by omega) (by decide)), chk_t (in_n (show 5 * w + i < 30 by omega) (by decide)), ix_n (by omega), g1, q_le (by omega) (by omega), nI_1, Nat.add_assoc]
    by_cases h : g i ≤ a
    · rw [if_pos h, Nat.max_eq_left h]
    · rw [if_neg h, Nat.max_eq_right (by omega)]
  | _, _, 0, _, _, hn, _ => absurd hn (Nat.not_lt_zero _)
end
