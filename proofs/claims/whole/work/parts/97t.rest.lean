/-! ===== pure: the end of a test, a bracket ===== -/
section RST
variable {len : Nat} {T : Nat → Nat}
theorem x_ends (hT : ∀ i, i < len → T i < 256) {q : Nat} {σ : MS} (tk : TokX 20 T len q σ) : f_X4_endsClause 20 σ = some (nI (if q = len ∨ (q < len ∧ T q = 59) then 1 else 0)) := by
  have hs := x_isSign (x := (59 : Int32)) (c := 59) rfl (by decide) hT tk
  unfold f_X4_endsClause b_X4_endsClause_0 b_X4_endsClause_16 b_X4_endsClause_21
  by_cases c : q = len
  · have h2 : sI σ 20 2 = 0 := by
      rcases tk with ⟨_, g, _⟩ | ⟨g, _⟩ | ⟨g, _⟩ | ⟨g, _⟩
      · exact g
      · omega
      · omega
      · omega
    rw [if_pos h2, if_pos (Or.inl c)]; rfl
  · have h2 : ¬ sI σ 20 2 = 0 := by
      rcases tk with ⟨g, _, _⟩ | ⟨_, _, g, _⟩ | ⟨_, _, g, _⟩ | ⟨_, _, _, g, _⟩
      · exact absurd g c
      · rw [g]; decide
      · rw [g]; decide
      · rw [g]; decide
    rw [if_neg h2, hs, bnd]
    by_cases c2 : q < len ∧ T q = 59
    · rw [if_pos c2, if_neg (show ¬ nI 1 = 0 by decide), if_pos (Or.inr c2)]; rfl
    · rw [if_neg c2, if_pos (show nI 0 = 0 from rfl), if_neg (fun h => h.elim c c2)]; rfl
/-- neither and nor or -/
theorem x_goStep (hl : len ≤ 400) (hT : ∀ i, i < len → T i < 256) {q : Nat} {σ : MS} (tx : TX len T σ) (hq : q ≤ len) (tk : TokX 20 T len q σ) (h3 : sI σ 20 3 = nI q) (h6 : sI σ 20 6 = 0) (hl3 : lk T len q ≠ 3) (hl4 : lk T len q ≠ 4) : f_X7_goOnFromFact σ = if q < len ∧ T q = 93 then f_X7_closeBracket σ else if q = len ∨ (q < len ∧ T q = 59) then f_X7_endTest σ else some (wI σ 20 6 (nI (1 + 8 * q + 0))) := by
  have := lk_le T len q
  have k2 : ¬ hI (lk T len q) = (2 : Int32) := fun h => hl3 ((hI_n (q := 2) (by omega) (by decide)).mp h)
  have k3 : ¬ hI (lk T len q) = (3 : Int32) := fun h => hl4 ((hI_n (q := 3) (by omega) (by decide)).mp h)
  unfold f_X7_goOnFromFact b_X7_goOnFromFact_0
  rw [x_link hl hT tx hq tk h3, bnd, if_neg k2, if_neg k3, x_isSign (x := (93 : Int32)) (c := 93) rfl (by decide) hT tk, bnd]
  by_cases c : q < len ∧ T q = 93
  · rw [if_pos c, if_neg (show ¬ nI 1 = 0 by decide), if_pos c]
    cases f_X7_closeBracket σ <;> rfl
  · rw [if_neg c, if_pos (show nI 0 = 0 from rfl), if_neg c, x_ends hT tk, bnd]
    by_cases c2 : q = len ∨ (q < len ∧ T q = 59)
    · rw [if_pos c2, if_neg (show ¬ nI 1 = 0 by decide), if_pos c2]
      cases f_X7_endTest σ <;> rfl
    · rw [if_neg c2, if_pos (show nI 0 = 0 from rfl), if_neg c2, x_fail (x := (0 : Int32)) (c := 0) rfl h6 h3]
      rfl
end RST
