/-! ===== pure: look, its loops ===== -/
section
theorem m_zero44 {y1 y2 : Int32} : ∀ (j i f : Nat) (σ : MS), i + j = 30 → j < f → (∀ v, v < i → sI σ 44 v = 0) → ∃ σ', b_X12_look_33 f y1 y2 (nI i) σ = (f_X12_keepsAll σ').bind (fun r42 => (b_X12_look_64 FU (y1) (y2) ((0 : Int32)) ((-1 : Int32)) r42)) ∧ Sm σ σ' ∧ (∀ b, b ≠ 44 → sI σ' b = sI σ b) ∧ (∀ v, v < 30 → sI σ' 44 v = 0)
  | 0, i, f + 1, σ, hi, _, h => by
    refine ⟨σ, ?_, Sm.refl _, fun _ _ => rfl, fun v hv => h v (by omega)⟩
    unfold b_X12_look_33
    rw [q_ln_le (by decide) (by omega), if_pos (by omega)]
  | j + 1, i, f + 1, σ, hi, hf, h => by
    have hn : ∀ b, b ≠ 44 → sI (wI σ 44 i 0) b = sI σ b := fun b hb => sI_wIn _ _ _ _ hb
    obtain ⟨σ', g1, g2, g3, g4⟩ := m_zero44 (y1 := y1) (y2 := y2) j (i + 1) f (wI σ 44 i 0) (by omega) (by omega) (fun v hv => by
      by_cases e : v = i
      · subst e; rw [sI_wIs]
      · rw [sI_wIk _ _ _ _ e]; exact h v (by omega))
    refine ⟨σ', ?_, ⟨g2.1, g2.2.1, g2.2.2⟩, fun b hb => by rw [g3 b hb, hn b hb], g4⟩
    conv => lhs; unfold b_X12_look_33
    rw [q_ln_le (by decide) (by omega), if_neg (by omega), chk_t (in_n (show i < 30 by omega) (by decide)), ix_n (by omega), nI_1]
    exact g1
  | _, _, 0, _, _, hn, _ => absurd hn (Nat.not_lt_zero _)
end
