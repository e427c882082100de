/-! ===== pure: the class deepens, or begins a comparison ===== -/
section FD
variable {len : Nat} {T : Nat → Nat}
theorem TokX.w17 {q k : Nat} {σ : MS} {x : Int32} (h : TokX 20 T len q σ) : TokX 20 T len q (wI σ 17 k x) := by
  unfold TokX at h ⊢
  have e : sI (wI σ 17 k x) 20 = sI σ 20 := sI_wIn _ _ _ _ (by decide)
  rw [e]
  exact h
theorem x_deepen (hl : len ≤ 400) (hT : ∀ i, i < len → T i < 256) {q part dep v : Nat} {ws : List Nat} {cs : List Ent} {σ : MS} (tx : TX len T σ) (tk : TokX 20 T len q σ) (h3 : sI σ 20 3 = nI q) (h6 : sI σ 20 6 = 0) (hc : CV σ part dep v ws cs) (hd : dep ≤ 10) (hl2 : ws.length < 64) :
    ∃ σ', f_X7_deepen σ = some σ' ∧ FC σ σ' ∧ sI σ' 17 3 = sI σ 17 3 ∧ sI σ' 20 1 = sI σ 20 1 ∧ CV σ' part (dep + 1) v ((if q < len ∧ T q = 91 then 15 else 12) :: ws) cs ∧ ((dep < 10 ∧ sI σ' 20 6 = 0) ∨ (¬ dep < 10 ∧ sI σ' 20 6 = nI (1 + 8 * q + 2))) := by
  have key : ∀ σb : MS, TokX 20 T len q σb → CV σb part dep v ws cs → FC σ σb → sI σb 17 3 = sI σ 17 3 → ∃ σ', b_X7_deepen_17 σb = some σ' ∧ FC σ σ' ∧ sI σ' 17 3 = sI σ 17 3 ∧ sI σ' 20 = sI σb 20 ∧ CV σ' part (dep + 1) v ((if q < len ∧ T q = 91 then 15 else 12) :: ws) cs := by
    intro σb tb cb fb gb
    have c1 := cb.dp (dep + 1)
    have f1 : FC σ (wI σb 17 5 (nI (dep + 1))) := fb.trans (FC.w _ _ _ (by decide))
    have g1 : sI (wI σb 17 5 (nI (dep + 1))) 17 3 = sI σ 17 3 := by rw [sI_r, if_neg (by decide)]; exact gb
    have e20 : sI (wI σb 17 5 (nI (dep + 1))) 20 = sI σb 20 := sI_wIn _ _ _ _ (by decide)
    unfold b_X7_deepen_17 b_X7_deepen_47
    rw [cb.2.1, nl_add, x_isSign (x := (91 : Int32)) (c := 91) rfl (by decide) hT (tb.w17 (k := 5) (x := nI (dep + 1))), bnd]
    by_cases c : q < len ∧ T q = 91
    · rw [if_pos c, if_neg (show ¬ nI 1 = 0 by decide), if_pos c]
      obtain ⟨σ', d1, d2, d3, d4, d5⟩ := x_psh (o := 15) (x := (15 : Int32)) rfl c1 hl2
      rw [d1]
      exact ⟨σ', rfl, f1.trans d3, d4.trans g1, d5.trans e20, d2⟩
    · rw [if_neg c, if_pos (show nI 0 = 0 from rfl), if_neg c]
      obtain ⟨σ', d1, d2, d3, d4, d5⟩ := x_psh (o := 12) (x := (12 : Int32)) rfl c1 hl2
      rw [d1]
      exact ⟨σ', rfl, f1.trans d3, d4.trans g1, d5.trans e20, d2⟩
  unfold f_X7_deepen b_X7_deepen_0
  rw [hc.2.1]
  by_cases c : dep < 10
  · rw [if_pos (show nI dep < (10 : Int32) from (nl_lt (by decide) (by omega)).mpr c)]
    obtain ⟨σ', a1, a2, a3, a4, a5⟩ := key σ tk hc (FC.refl σ) rfl
    exact ⟨σ', a1, a2, a3, by rw [a4], a5, Or.inl ⟨c, by rw [a4]; exact h6⟩⟩
  · rw [if_neg (show ¬ nI dep < (10 : Int32) from fun h => c ((nl_lt (by decide) (by omega)).mp h)), x_fail (x := (2 : Int32)) (c := 2) rfl h6 h3, bnd]
    have tb : TokX 20 T len q (wI σ 20 6 (nI (1 + 8 * q + 2))) := by
      unfold TokX at tk ⊢
      have e : ∀ j, j ≠ 6 → sI (wI σ 20 6 (nI (1 + 8 * q + 2))) 20 j = sI σ 20 j := fun j hj => by rw [sI_r, if_neg hj]
      rw [e 1 (by decide), e 2 (by decide), e 4 (by decide), e 5 (by decide)]
      exact tk
    obtain ⟨σ', a1, a2, a3, a4, a5⟩ := key _ tb (hc.f6 _) (FC.w σ _ _ (by decide)) (by rw [sI_wIn _ _ _ _ (by decide)])
    exact ⟨σ', a1, a2, a3, by rw [a4, sI_r, if_neg (by decide)], a5, Or.inr ⟨c, by rw [a4, sI_r, if_pos rfl]⟩⟩
/-- an iteration of a class that wants a fact -/
theorem it_fact (hl : len ≤ 400) (hT : ∀ i, i < len → T i < 256) {p y part dep v : Nat} {ws : List Nat} {cs : List Ent} {σ : MS} (tx : TX len T σ) (hp : p ≤ len) (e1 : sI σ 20 1 = nI p) (h6 : sI σ 20 6 = 0) (h3 : sI σ 17 3 = 1) (hy : y ≤ 400) (hc : CV σ part dep v ws cs) (hd : dep ≤ 10) (hl2 : ws.length < 64) :
    ∃ σ1, FA 20 σ σ1 ∧ sI σ1 20 6 = 0 ∧ sI σ1 20 3 = nI (skB T len p) ∧ TokX 20 T len (skB T len p) σ1 ∧
      (((skB T len p < len ∧ T (skB T len p) = 91) ∨ mtN T len (skB T len p) 20 = 1) → ∃ σ', Rn y σ (y + 1) σ' ∧ FC σ σ' ∧ sI σ' 17 3 = 1 ∧ sI σ' 20 1 = sI σ1 20 1 ∧ CV σ' part (dep + 1) v ((if skB T len p < len ∧ T (skB T len p) = 91 then 15 else 12) :: ws) cs ∧ ((dep < 10 ∧ sI σ' 20 6 = 0) ∨ (¬ dep < 10 ∧ sI σ' 20 6 = nI (1 + 8 * skB T len p + 2)))) ∧
      (¬ ((skB T len p < len ∧ T (skB T len p) = 91) ∨ mtN T len (skB T len p) 20 = 1) → ∀ n, b_X7_readClause_2 (n + 1) (nI y) σ = (f_X7_readValue (wI (wI σ1 17 4 1) 17 3 0)).bind (fun s => b_X7_readClause_2 n (nI (y + 1)) s)) := by
  obtain ⟨σ1, a1, a2, a3, a4, a5⟩ := it_has (st := 1) hl hT tx hp e1 h6 h3 (by decide) hy
  obtain ⟨q1, q2⟩ := skB_le T hp
  have g3 : sI σ1 17 3 = 1 := by rw [a2.2 17 (by decide)]; exact h3
  have txa := tx.fa a2 (by decide) (by decide)
  have ho := x_opens hl hT txa q2 a5 a4
  refine ⟨σ1, a2, a3, a4, a5, fun c => ?_, fun c n => ?_⟩
  · rw [if_pos c] at ho
    obtain ⟨σ', d1, d2, d3, d4, d5, d6⟩ := x_deepen hl hT txa a5 a4 a3 (hc.fa a2) hd hl2
    refine ⟨σ', Rn.one (fun n => ?_), a2.fc.trans d2, d3.trans g3, d4, d5, d6⟩
    rw [a1, if_neg (show ¬ nI 1 = (2 : Int32) by decide)]
    unfold b_X7_readClause_54
    rw [g3, if_pos rfl, ho, bnd, if_neg (show ¬ nI 1 = 0 by decide)]
    unfold b_X7_readClause_79
    rw [g3, if_neg (by decide), if_pos rfl, d1, bnd]
    unfold b_X7_readClause_133
    rw [nl_add]
  · rw [if_neg c] at ho
    rw [a1, if_neg (show ¬ nI 1 = (2 : Int32) by decide)]
    unfold b_X7_readClause_54
    rw [g3, if_pos rfl, ho, bnd, if_pos (show nI 0 = 0 from rfl)]
    unfold b_X7_readClause_79
    rw [show sI (wI (wI σ1 17 4 1) 17 3 0) 17 3 = 0 by rw [sI_r, if_pos rfl], if_pos rfl]
    unfold b_X7_readClause_133
    rw [nl_add]
end FD
