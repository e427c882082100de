/-! ===== pure: the class behind a fact ===== -/
section DN
variable {len : Nat} {T : Nat → Nat}
theorem tok_sums (hT : ∀ i, i < len → T i < 256) {q : Nat} {σ : MS} (h1 : ¬ (q < len ∧ sgS (T q))) (tk : TokX 20 T len q σ) : ∃ o, f_X7_operationOfSign σ = some o ∧ f_X7_isOfSums o σ = some 0 := by
  by_cases c : q < len ∧ sgC (T q)
  · obtain ⟨_, _, t3, _⟩ := tok_cm hT c.1 c.2 tk
    obtain ⟨o1, o2, _⟩ := cOp_ok c.2 (eqF_le T len q)
    refine ⟨_, t3, ?_⟩
    have h : ∀ o, o ≤ 11 → 7 ≤ o → (if nI o = (-1 : Int32) then some (0 : Int32) else chk (inb (nI o) 16) (if (levT.getD (ix (nI o)) 0) < (5 : Int32) then some (0 : Int32) else some 1)) = some 0 := by decide +kernel
    rw [← h _ o2 o1]; rfl
  · exact ⟨_, tok_no hT h1 c tk, rfl⟩
/-- an iteration of a class that has a fact: state 3, or the end of a right sum -/
theorem it_done (hl : len ≤ 400) (hT : ∀ i, i < len → T i < 256) {p y dep v part : Nat} {ws : List Nat} {cs : List Ent} {σ : MS} (tx : TX len T σ) (hp : p ≤ len) (e1 : sI σ 20 1 = nI p) (h6 : sI σ 20 6 = 0) (hy : y ≤ 400) (hc : CV σ part dep v ws cs) (hst : sI σ 17 3 = 3 ∨ (sI σ 17 3 = 2 ∧ part = 2 ∧ ¬ (skB T len p < len ∧ sgS (T (skB T len p))))) :
    ∃ σ1, (∀ n, b_X7_readClause_2 (n + 1) (nI y) σ = (f_X7_goOnFromFact σ1).bind (fun s => b_X7_readClause_2 n (nI (y + 1)) s)) ∧ FC σ σ1 ∧ TX len T σ1 ∧ sI σ1 20 6 = 0 ∧ sI σ1 20 3 = nI (skB T len p) ∧ TokX 20 T len (skB T len p) σ1 ∧ sI σ1 17 3 = 3 ∧ CV σ1 part dep v ws cs := by
  rcases hst with h3 | ⟨h3, hp2, hs⟩
  · obtain ⟨σ1, a1, a2, a3, a4, a5⟩ := it_has (st := 3) hl hT tx hp e1 h6 h3 (by decide) hy
    have g3 : sI σ1 17 3 = 3 := by rw [a2.2 17 (by decide)]; exact h3
    refine ⟨σ1, fun n => ?_, a2.fc, tx.fa a2 (by decide) (by decide), a3, a4, a5, g3, hc.fa a2⟩
    rw [a1, if_neg (show ¬ nI 3 = (2 : Int32) by decide)]
    unfold b_X7_readClause_54
    rw [g3, if_neg (by decide)]
    unfold b_X7_readClause_79
    rw [g3, if_neg (by decide), if_neg (by decide), if_neg (by decide)]
    unfold b_X7_readClause_133
    rw [nl_add]
  · obtain ⟨σ1, a1, a2, a3, a4, a5⟩ := it_has (st := 2) hl hT tx hp e1 h6 h3 (by decide) hy
    have hc1 := hc.fa a2
    obtain ⟨o, t1, t2⟩ := tok_sums hT hs a5
    have hends : f_X7_endsFact σ1 = some 1 := by
      unfold f_X7_endsFact b_X7_endsFact_0
      rw [hc1.1, hp2, if_pos (show nI 2 = (2 : Int32) from rfl), t1, bnd, t2, bnd, if_pos rfl]; rfl
    have g3 : sI (wI σ1 17 3 3) 17 3 = 3 := by rw [sI_r, if_pos rfl]
    have e20 : sI (wI σ1 17 3 3) 20 = sI σ1 20 := sI_wIn _ _ _ _ (by decide)
    refine ⟨wI σ1 17 3 3, fun n => ?_, a2.fc.trans (FC.w _ _ _ (by decide)), (tx.fa a2 (by decide) (by decide)).fc (FC.w _ _ _ (by decide)), by rw [e20]; exact a3, by rw [e20]; exact a4, a5.w17, g3, hc1.w 3⟩
    rw [a1, if_pos (show nI 2 = (2 : Int32) from rfl), hends, bnd, if_neg one_ne]
    unfold b_X7_readClause_54
    rw [g3, if_neg (by decide)]
    unfold b_X7_readClause_79
    rw [g3, if_neg (by decide), if_neg (by decide), if_neg (by decide)]
    unfold b_X7_readClause_133
    rw [nl_add]
end DN
