/-! ===== pure: the class closes a bracket, ends a test ===== -/
section CLS
theorem x_close {q part dep v : Nat} {t u : List Nat} {cs : List Ent} {σ : MS} (h3 : sI σ 20 3 = nI q) (h6 : sI σ 20 6 = 0) (hc : CV σ part (dep + nts t) v (t ++ u) cs) (ht : ∀ o, o ∈ t → o < 16 ∧ 1 ≤ lev o) (hu : ∀ o u', u = o :: u' → o = 15) (hlen : t.length + u.length < 64) (hcl : cs.length + t.length ≤ 401) (hd : dep + nts t < 900) (hd1 : u ≠ [] → 1 ≤ dep) :
    ∃ σ', f_X7_closeBracket σ = some σ' ∧ FC σ σ' ∧ ((u = [] ∧ sI σ' 20 6 = nI (1 + 8 * q + 0)) ∨ ∃ u', u = 15 :: u' ∧ sI σ' 17 3 = 3 ∧ sI σ' 20 = sI σ 20 ∧ CV σ' part (dep - 1) v u' (cs ++ op0 t)) := by
  obtain ⟨σ2, b1, b2, b3, b4, b5⟩ := x_set (L := 1) (x := (1 : Int32)) rfl (by decide) hc ht (fun o u' h => by rw [hu o u' h]; decide) (by omega) hcl (by omega)
  unfold f_X7_closeBracket b_X7_closeBracket_0
  rw [b1, bnd, b2.2.2.2.1.1]
  cases u with
  | nil =>
    rw [if_pos (show nI ([] : List Nat).length = 0 from rfl), x_fail (x := (0 : Int32)) (c := 0) rfl (by rw [b5]; exact h6) (by rw [b5]; exact h3)]
    exact ⟨_, rfl, b3.trans (FC.w _ _ _ (by decide)), Or.inl ⟨rfl, by rw [sI_r, if_pos rfl]⟩⟩
  | cons o u' =>
    have ho := hu o u' rfl
    subst ho
    have hl : u'.length + 1 < 64 := by simp at hlen; omega
    have hd2 := hd1 (by simp)
    obtain ⟨c1, c2, c3, c4, c5⟩ := b2
    rw [if_neg (by rw [n_zero (by simp; omega)]; simp)]
    rw [show nI (15 :: u').length - (1 : Int32) = nI u'.length by rw [nl_sub (by simp)]; simp]
    have e5 : sI (wI σ2 17 2 (nI u'.length)) 17 5 = nI dep := by rw [sI_r, if_neg (by decide)]; exact c2
    rw [e5, nl_sub hd2]
    refine ⟨_, rfl, b3.trans ((FC.w _ _ _ (by decide)).trans ((FC.w _ _ _ (by decide)).trans (FC.w _ _ _ (by decide)))), Or.inr ⟨u', rfl, by rw [sI_r, if_pos rfl], by rw [sI_wIn _ _ _ _ (by decide), sI_wIn _ _ _ _ (by decide), sI_wIn _ _ _ _ (by decide)]; exact b5, CV.w ?_ 3⟩⟩
    exact ⟨by rw [sI_r, if_neg (by decide), sI_r, if_neg (by decide)]; exact c1, by rw [sI_r, if_pos rfl], by rw [sI_r, if_neg (by decide), sI_r, if_neg (by decide)]; exact c3, ⟨by rw [sI_r, if_neg (by decide), sI_r, if_pos rfl], fun i hi => by rw [sI_wIn _ _ _ _ (by decide), sI_wIn _ _ _ _ (by decide)]; exact c4.tl.2 i hi⟩, ⟨by rw [sI_r, if_neg (by decide), sI_r, if_neg (by decide)]; exact c5.1, by rw [sI_wIn _ _ _ _ (by decide), sI_wIn _ _ _ _ (by decide)]; exact c5.2⟩⟩
end CLS
