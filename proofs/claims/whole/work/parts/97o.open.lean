/-! ===== pure: what is opened in a test ===== -/
section OP
variable {len : Nat} {T : Nat → Nat}
theorem TK.push {σ : MS} {d o : Nat} {W : List Nat} (h : TK σ d W) (hl : W.length ≤ 100) : f_X12_opens (nI (o - 3)) σ = f_X12_opens (nI (o - 3)) σ ∧ b_X12_opens_40 (nI (o - 3)) σ = some (wI (wI σ 35 W.length (nI (o - 3))) 0 37 (nI (W.length + 1))) ∧ TK (wI (wI σ 35 W.length (nI (o - 3))) 0 37 (nI (W.length + 1))) d (o :: W) := by
  obtain ⟨h1, h2, h3⟩ := h
  refine ⟨rfl, ?_, ?_, ?_, fun i hi => ?_⟩
  · unfold b_X12_opens_40
    rw [h2, chk_t (in_n (by omega) (by decide)), ix_n (by omega), sI_wIn _ _ _ _ (by decide), h2, nl_add]
  · rw [sI_r, if_neg (by decide), sI_wIn _ _ _ _ (by decide)]; exact h1
  · rw [sI_r, if_pos rfl]; simp
  · rw [sI_wIn _ _ _ _ (by decide), sI_r]
    cases i with
    | zero => rw [if_pos (by simp)]; rfl
    | succ i =>
      have hi' : i < W.length := by simpa using hi
      rw [if_neg (by simp; omega), show (o :: W).length - 1 - (i + 1) = W.length - 1 - i by simp; omega, h3 i hi']; simp
/-- and, or -/
theorem m_openL {σ : MS} {d k r v : Nat} {W : List Nat} {es : List Ent} (hk : k = 13 ∨ k = 14) (h : TK σ d W) (hE : EM σ r es v) (hl : W.length ≤ 100) : ∃ σ', f_X12_opens (nI (k - 3)) σ = some σ' ∧ TK σ' d (k :: W) ∧ EM σ' r es v ∧ FQ r σ σ' ∧ (∀ j, j ≠ 37 → sI σ' 0 j = sI σ 0 j) := by
  obtain ⟨_, a1, a2⟩ := h.push (o := k) hl
  refine ⟨_, ?_, a2, ?_, (FQ.w35 r σ _ _).trans (FQ.w0 r _ _ (by decide)), fun j hj => by rw [sI_r, if_neg hj, sI_wIn _ _ _ _ (by decide)]⟩
  · unfold f_X12_opens b_X12_opens_0
    rw [if_neg (by rw [show (9 : Int32) = nI 9 from rfl, nI_eq (by omega) (by decide)]; omega), if_neg (by rw [show (12 : Int32) = nI 12 from rfl, nI_eq (by omega) (by decide)]; omega)]
    exact a1
  · obtain ⟨b1, b2, b3, b4, b5⟩ := hE
    exact ⟨by rw [sI_r, if_neg (by decide), sI_wIn _ _ _ _ (by decide)]; exact b1, by rw [sI_r, if_neg (by decide), sI_wIn _ _ _ _ (by decide)]; exact b2, fun j hj => by rw [sI_wIn _ _ _ _ (by decide), sI_wIn _ _ _ _ (by decide), sI_wIn _ _ _ _ (by decide), sI_wIn _ _ _ _ (by decide)]; exact b3 j hj, by rw [sI_r, if_neg (by decide), sI_wIn _ _ _ _ (by decide)]; exact b4, by rw [sI_r, if_neg (by decide), sI_wIn _ _ _ _ (by decide)]; exact b5⟩
/-- not, [ : one deeper, or a fault -/
theorem m_openD {σ : MS} {d k r v q : Nat} {W : List Nat} {es : List Ent} (hk : k = 12 ∨ k = 15) (h : TK σ d W) (hE : EM σ r es v) (hl : W.length ≤ 100) (hd : d ≤ 10) (e30 : sI σ 0 30 = nI q) (e31 : sI σ 0 31 = 0) : ∃ σ', f_X12_opens (nI (k - 3)) σ = some σ' ∧ FQ r σ σ' ∧ sI σ' 0 30 = nI q ∧ ((d < 10 ∧ TK σ' (d + 1) (k :: W) ∧ EM σ' r es v ∧ sI σ' 0 31 = 0) ∨ (¬ d < 10 ∧ sI σ' 0 31 = nI (1 + 8 * q + 2))) := by
  have e0 : f_X12_opens (nI (k - 3)) σ = b_X12_opens_12 (nI (k - 3)) σ := by
    unfold f_X12_opens b_X12_opens_0
    rcases hk with h | h <;> subst h <;> rfl
  rw [e0]
  unfold b_X12_opens_12 b_X12_opens_30
  rw [h.1]
  by_cases c : d < 10
  · rw [if_neg (by rw [nl_eq (by decide) (by omega)]; omega), nl_add]
    have hT1 : TK (wI σ 0 35 (nI (d + 1))) (d + 1) W := ⟨by rw [sI_r, if_pos rfl], by rw [sI_r, if_neg (by decide)]; exact h.2.1, fun i hi => by rw [sI_wIn _ _ _ _ (by decide)]; exact h.2.2 i hi⟩
    obtain ⟨_, a1, a2⟩ := hT1.push (o := k) hl
    rw [a1]
    refine ⟨_, rfl, (FQ.w0 r _ _ (by decide)).trans ((FQ.w35 r _ _ _).trans (FQ.w0 r _ _ (by decide))), by rw [sI_r, if_neg (by decide), sI_wIn _ _ _ _ (by decide), sI_r, if_neg (by decide)]; exact e30, Or.inl ⟨c, a2, ?_, by rw [sI_r, if_neg (by decide), sI_wIn _ _ _ _ (by decide), sI_r, if_neg (by decide)]; exact e31⟩⟩
    obtain ⟨b1, b2, b3, b4, b5⟩ := hE
    exact ⟨by rw [sI_r, if_neg (by decide), sI_wIn _ _ _ _ (by decide), sI_r, if_neg (by decide)]; exact b1, by rw [sI_r, if_neg (by decide), sI_wIn _ _ _ _ (by decide), sI_r, if_neg (by decide)]; exact b2, fun j hj => by rw [sI_wIn _ _ _ _ (by decide), sI_wIn _ _ _ _ (by decide), sI_wIn _ _ _ _ (by decide), sI_wIn _ _ _ _ (by decide), sI_wIn _ _ _ _ (by decide), sI_wIn _ _ _ _ (by decide)]; exact b3 j hj, by rw [sI_r, if_neg (by decide), sI_wIn _ _ _ _ (by decide), sI_r, if_neg (by decide)]; exact b4, by rw [sI_r, if_neg (by decide), sI_wIn _ _ _ _ (by decide), sI_r, if_neg (by decide)]; exact b5⟩
  · rw [if_pos (by rw [nl_eq (by decide) (by omega)]; omega), m_fails (x := (2 : Int32)) (c := 2) rfl e30 e31, bnd, sI_r, if_neg (by decide), h.1, nl_add]
    have hT1 : TK (wI (wI σ 0 31 (nI (1 + 8 * q + 2))) 0 35 (nI (d + 1))) (d + 1) W := ⟨by rw [sI_r, if_pos rfl], by rw [sI_r, if_neg (by decide), sI_r, if_neg (by decide)]; exact h.2.1, fun i hi => by rw [sI_wIn _ _ _ _ (by decide), sI_wIn _ _ _ _ (by decide)]; exact h.2.2 i hi⟩
    obtain ⟨_, a1, a2⟩ := hT1.push (o := k) hl
    rw [a1]
    exact ⟨_, rfl, (FQ.w0 r _ _ (by decide)).trans ((FQ.w0 r _ _ (by decide)).trans ((FQ.w35 r _ _ _).trans (FQ.w0 r _ _ (by decide)))), by rw [sI_r, if_neg (by decide), sI_wIn _ _ _ _ (by decide), sI_r, if_neg (by decide), sI_r, if_neg (by decide)]; exact e30, Or.inr ⟨c, by rw [sI_r, if_neg (by decide), sI_wIn _ _ _ _ (by decide), sI_r, if_neg (by decide), sI_r, if_pos rfl]⟩⟩
end OP
