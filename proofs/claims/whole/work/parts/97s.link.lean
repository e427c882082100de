/-! ===== pure: and, or ===== -/
section LNK
variable {len : Nat} {T : Nat → Nat}
theorem x_goLink (hl : len ≤ 400) (hT : ∀ i, i < len → T i < 256) {q k part dep v : Nat} {t u : List Nat} {cs : List Ent} {σ : MS} (tx : TX len T σ) (hq : q ≤ len) (tk : TokX 20 T len q σ) (h3 : sI σ 20 3 = nI q) (hk : k = 13 ∨ k = 14) (hlk : lk T len q = k - 10) (hc : CV σ part (dep + nts t) v (t ++ u) cs) (ht : ∀ o, o ∈ t → o < 16 ∧ lev k ≤ lev o) (hu : ∀ o u', u = o :: u' → o < 16 ∧ lev o < lev k) (hlen : t.length + u.length < 64) (hcl : cs.length + t.length ≤ 401) (hd : dep + nts t < 900) :
    ∃ σ', f_X7_goOnFromFact σ = some σ' ∧ FC σ σ' ∧ sI σ' 17 3 = 1 ∧ sI σ' 20 = sI σ 20 ∧ CV σ' part dep v (k :: u) (cs ++ op0 t) := by
  have hk16 : k < 16 := by omega
  obtain ⟨σ2, b1, b2, b3, b4, b5⟩ := x_set (L := lev k) rfl (lev_lt _ hk16) hc ht hu (by omega) hcl (by omega)
  have hul : u.length < 64 := by omega
  obtain ⟨σ3, d1, d2, d3, d4, d5⟩ := x_psh (o := k) rfl b2 hul
  have h32 : b_X7_goOnFromFact_32 (nI k) σ = some (wI σ3 17 3 1) := by
    unfold b_X7_goOnFromFact_32 b_X7_goOnFromFact_99
    rw [chk_t (in_n hk16 (by decide)), ix_n (by omega), lev_ok k hk16, b1, bnd, d1, bnd]
  refine ⟨wI σ3 17 3 1, ?_, b3.trans (d3.trans (FC.w _ _ _ (by decide))), by rw [sI_r, if_pos rfl], by rw [sI_wIn _ _ _ _ (by decide), d5, b5], d2.w 1⟩
  unfold f_X7_goOnFromFact b_X7_goOnFromFact_0
  rw [x_link hl hT tx hq tk h3, bnd, hlk]
  unfold b_X7_goOnFromFact_20
  rcases hk with h | h
  · subst h
    rw [if_pos (show hI (13 - 10) = (2 : Int32) from rfl), if_pos (show hI (13 - 10) = (2 : Int32) from rfl)]
    exact h32
  · subst h
    rw [if_neg (show ¬ hI (14 - 10) = (2 : Int32) by decide), if_pos (show hI (14 - 10) = (3 : Int32) from rfl), if_neg (show ¬ hI (14 - 10) = (2 : Int32) by decide)]
    exact h32
end LNK
