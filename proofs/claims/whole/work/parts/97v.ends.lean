/-! ===== pure: the class ends a test, a taken sum ===== -/
section ENDS
variable {len : Nat} {T : Nat → Nat}
theorem x_endTest {q part dep v : Nat} {t u : List Nat} {cs : List Ent} {σ : MS} (h3 : sI σ 20 3 = nI q) (h6 : sI σ 20 6 = 0) (hc : CV σ part (dep + nts t) v (t ++ u) cs) (ht : ∀ o, o ∈ t → o < 16 ∧ 1 ≤ lev o) (hu : ∀ o u', u = o :: u' → o = 15) (hlen : t.length + u.length < 64) (hcl : cs.length + t.length < 401) (hd : dep + nts t < 900) :
    ∃ σ', f_X7_endTest σ = some σ' ∧ FC σ σ' ∧ sI σ' 17 3 = 4 ∧ ((u = [] ∧ sI σ' 20 = sI σ 20 ∧ CV σ' part dep v [] (cs ++ op0 t ++ [(17, 0)])) ∨ (u ≠ [] ∧ sI σ' 20 6 = nI (1 + 8 * q + 0))) := by
  obtain ⟨σ2, b1, b2, b3, b4, b5⟩ := x_set (L := 1) (x := (1 : Int32)) rfl (by decide) hc ht (fun o u' h => by rw [hu o u' h]; decide) (by omega) (by omega) (by omega)
  have hcl2 : (cs ++ op0 t).length < 401 := by simp [op0]; omega
  obtain ⟨c1, c2, c3, c4, c5⟩ := b2
  unfold f_X7_endTest b_X7_endTest_0
  rw [b1, bnd, c4.1]
  cases u with
  | nil =>
    rw [if_pos (by decide)]
    unfold b_X7_endTest_20
    obtain ⟨σ3, d1, d2, d3, d4, d5, d6⟩ := x_emit (e := (17, 0)) (x := (17 : Int32)) rfl c5 hcl2
    rw [d1, bnd]
    refine ⟨_, rfl, b3.trans (d3.trans (FC.w _ _ _ (by decide))), by rw [sI_r, if_pos rfl], Or.inl ⟨rfl, by rw [sI_wIn _ _ _ _ (by decide), d6, b5], CV.w ?_ 4⟩⟩
    exact ⟨by rw [d4 4 (by decide)]; exact c1, by rw [d4 5 (by decide)]; exact c2, by rw [d4 6 (by decide)]; exact c3, ⟨by rw [d4 2 (by decide)]; exact c4.1, fun i hi => by rw [d5]; exact c4.2 i hi⟩, d2⟩
  | cons o u' =>
    have hl : u'.length + 1 < 64 := by simp at hlen; omega
    rw [if_neg (by rw [show (0 : Int32) = nI 0 from rfl, nI_leI (by simp; omega) (by decide)]; simp), x_fail (x := (0 : Int32)) (c := 0) rfl (by rw [b5]; exact h6) (by rw [b5]; exact h3), bnd]
    unfold b_X7_endTest_20
    obtain ⟨σ3, d1, d2, d3, d4, d5, d6⟩ := x_emit (σ := wI σ2 20 6 (nI (1 + 8 * q + 0))) (cs := cs ++ op0 t) (e := (17, 0)) (x := (17 : Int32)) rfl ⟨by rw [sI_wIn _ _ _ _ (by decide)]; exact c5.1, by rw [sI_wIn _ _ _ _ (by decide)]; exact c5.2⟩ hcl2
    rw [d1, bnd]
    exact ⟨_, rfl, b3.trans ((FC.w _ _ _ (by decide)).trans (d3.trans (FC.w _ _ _ (by decide)))), by rw [sI_r, if_pos rfl], Or.inr ⟨by simp, by rw [sI_wIn _ _ _ _ (by decide), d6, sI_r, if_pos rfl]⟩⟩
theorem x_endSum (hl : len ≤ 400) (hT : ∀ i, i < len → T i < 256) {q part v : Nat} {t : List Nat} {cs : List Ent} {σ : MS} (tx : TX len T σ) (hq : q ≤ len) (tk : TokX 20 T len q σ) (h3 : sI σ 20 3 = nI q) (h6 : sI σ 20 6 = 0) (hc : CV σ part 0 v t cs) (ht : ∀ o, o ∈ t → o < 7 ∧ 5 ≤ lev o) (hlen : t.length < 64) (hcl : cs.length + t.length < 401) :
    ∃ σ', f_X7_endTakenSum σ = some σ' ∧ FC σ σ' ∧
      (((q = len ∨ (q < len ∧ T q = 59)) ∧ sI σ' 17 3 = 4 ∧ sI σ' 20 = sI σ 20 ∧ CV σ' part 0 v [] (cs ++ op0 t ++ [(16, 0)])) ∨
       (¬ (q = len ∨ (q < len ∧ T q = 59)) ∧ mtN T len q 19 = 1 ∧ sI σ' 17 3 = 1 ∧ sI σ' 20 = sI σ 20 ∧ CV σ' part 0 v [] (cs ++ op0 t)) ∨
       (¬ (q = len ∨ (q < len ∧ T q = 59)) ∧ ¬ mtN T len q 19 = 1 ∧ sI σ' 20 6 = nI (1 + 8 * q + 0))) := by
  have hn0 : nts t = 0 := nts_0 t (fun o ho => (ht o ho).1)
  obtain ⟨σ2, b1, b2, b3, b4, b5⟩ := x_set (L := 5) (x := (5 : Int32)) (u := []) (t := t) (dep := 0) rfl (by decide) (by rw [hn0, List.append_nil]; exact hc) (fun o ho => ⟨by have := (ht o ho).1; omega, (ht o ho).2⟩) (fun o u' h => by cases h) (by simp; omega) (by omega) (by omega)
  have hcl2 : (cs ++ op0 t).length < 401 := by simp [op0]; omega
  have tk2 : TokX 20 T len q σ2 := by unfold TokX; rw [b5]; exact tk
  have tx2 : TX len T σ2 := tx.fc b3
  unfold f_X7_endTakenSum b_X7_endTakenSum_0
  rw [b1, bnd, x_ends hT tk2, bnd]
  by_cases c : q = len ∨ (q < len ∧ T q = 59)
  · rw [if_pos c, if_neg (show ¬ nI 1 = 0 by decide)]
    obtain ⟨c1, c2, c3, c4, c5⟩ := b2
    obtain ⟨σ3, d1, d2, d3, d4, d5, d6⟩ := x_emit (e := (16, 0)) (x := (16 : Int32)) rfl c5 hcl2
    rw [d1, bnd]
    refine ⟨_, rfl, b3.trans (d3.trans (FC.w _ _ _ (by decide))), Or.inl ⟨c, by rw [sI_r, if_pos rfl], by rw [sI_wIn _ _ _ _ (by decide), d6, b5], CV.w ?_ 4⟩⟩
    exact ⟨by rw [d4 4 (by decide)]; exact c1, by rw [d4 5 (by decide)]; exact c2, by rw [d4 6 (by decide)]; exact c3, ⟨by rw [d4 2 (by decide)]; exact c4.1, fun i hi => by rw [d5]; exact c4.2 i hi⟩, d2⟩
  · rw [if_neg c, if_pos (show nI 0 = 0 from rfl), x_link hl hT tx2 hq tk2 (by rw [b5]; exact h3), bnd]
    have hle := lk_le T len q
    by_cases c2 : mtN T len q 19 = 1
    · rw [lk_is.2.1.mpr c2, if_pos (show hI 2 = (1 : Int32) from rfl)]
      exact ⟨_, rfl, b3.trans (FC.w _ _ _ (by decide)), Or.inr (Or.inl ⟨c, c2, by rw [sI_r, if_pos rfl], by rw [sI_wIn _ _ _ _ (by decide), b5], b2.w 1⟩)⟩
    · have k2 : ¬ hI (lk T len q) = (1 : Int32) := fun h => c2 (lk_is.2.1.mp ((hI_n (q := 1) (by omega) (by decide)).mp h))
      rw [if_neg k2, x_fail (x := (0 : Int32)) (c := 0) rfl (by rw [b5]; exact h6) (by rw [b5]; exact h3), bnd]
      exact ⟨_, rfl, b3.trans (FC.w _ _ _ (by decide)), Or.inr (Or.inr ⟨c, c2, by rw [sI_r, if_pos rfl]⟩)⟩
end ENDS
