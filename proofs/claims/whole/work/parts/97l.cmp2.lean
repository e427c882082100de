/-! ===== pure: a comparison, both ===== -/
section CN
variable {len : Nat} {T : Nat → Nat}
def FOut (T : Nat → Nat) (len ql r dep B x y v : Nat) (ws : List Nat) (cs es : List Ent) (y' : Nat) (σx' σm' : MS) : Prop :=
  ∃ p' v' X pd, LQ T len p' σx' σm' ∧ ql < p' ∧ y < y' ∧ y' ≤ p' ∧ v + 3 ≤ v' ∧ v' ≤ 60 ∧ sI σx' 17 3 = 2 ∧ CV σx' 2 dep v' (pd ++ ws) (cs ++ X) ∧ EM σm' r (es ++ (X ++ op0 pd)) v' ∧ (∀ o, o ∈ pd → o < 12 ∧ 4 ≤ lev o) ∧ pd.length ≤ 3 ∧ (∀ ts : List Bool, ts.length ≤ 30 → tys 50 (X ++ op0 pd) ts = some (true :: ts)) ∧ es.length + (X ++ op0 pd).length + x + 3 ≤ 2 * v' + B ∧ ¬ (skB T len p' < len ∧ sgS (T (skB T len p')))
theorem ty_c {o : Nat} (h1 : 7 ≤ o) (h2 : o ≤ 11) {ts : List Bool} : tys 50 [(o, 0)] (false :: false :: ts) = some (true :: ts) := by
  rcases (by omega : o = 7 ∨ o = 8 ∨ o = 9 ∨ o = 10 ∨ o = 11) with h | h | h | h | h <;> subst h <;> rfl
theorem c90 {t a b q1 : Int32} {σ : MS} {z o : Nat} (hpos : q1 + b = nI z) (hk : ∀ r19, (if t = (61 : Int32) then (b_X12_compared_139 ((6 : Int32)) r19) else (if t = (60 : Int32) then (if a = 0 then (b_X12_compared_139 ((4 : Int32)) r19) else (b_X12_compared_139 ((5 : Int32)) r19)) else (if a = 0 then (b_X12_compared_139 ((8 : Int32)) r19) else (b_X12_compared_139 ((7 : Int32)) r19)))) = b_X12_compared_139 (nI (trm o)) r19) : b_X12_compared_90 t a b q1 σ = (f_X12_sum (wI σ 0 30 (nI z))).bind (fun r19 => (f_X12_entry (nI (trm o)) (0 : Int32) r19).bind (fun r18 => some r18)) := by
  unfold b_X12_compared_90
  rw [hpos]
  exact congrArg (Option.bind _) (funext fun r19 => (hk r19).trans (by unfold b_X12_compared_139; rfl))
/-- the reference's way behind the sign of a comparison -/
theorem m_c37 (hl : len ≤ 400) (hT : ∀ i, i < len → T i < 256) {q : Nat} {σ σc : MS} (tmc : TM len T σc) (hq : q < len) (hs : sgC (T q)) (e30 : sI σc 0 30 = nI q) (hcnt : f_X12_isCounted (sI σ 0 30) σ = some σc) : b_X12_compared_37 (nI (T q)) σ = (f_X12_sum (wI (wI σc 0 30 (nI (q + 1))) 0 30 (nI (q + 1 + eqF T len q)))).bind (fun r19 => (f_X12_entry (nI (trm (cOp (T q) (eqF T len q)))) (0 : Int32) r19).bind (fun r18 => some r18)) := by
  have tm1 : TM len T (wI σc 0 30 (nI (q + 1))) := tmc.fr (FR.w30 _ _)
  have p1 : sI (wI σc 0 30 (nI (q + 1))) 0 30 = nI (q + 1) := by rw [sI_r, if_pos rfl]
  have hsg := m_sign tm1 hl hT (by omega) p1
  have k61 : ((hI (cc T len (q + 1))) = (61 : Int32)) ↔ (q + 1 < len ∧ T (q + 1) = 61) := ccI (by decide) hT
  unfold b_X12_compared_37
  rw [hcnt, bnd, e30, nl_add]
  have z0 : nI (q + 1) + (0 : Int32) = nI (q + 1 + 0) := nl_add (q + 1) 0
  have z1 : nI (q + 1) + (1 : Int32) = nI (q + 1 + 1) := nl_add (q + 1) 1
  rcases hs with h | h | h
  · by_cases c : q + 1 < len ∧ T (q + 1) = 61
    · have e : eqF T len q = 1 := if_pos ⟨Or.inl h, c.1, c.2⟩
      rw [e, h, if_neg (by decide), hsg, bnd, if_pos (k61.mpr c)]
      unfold b_X12_compared_75
      rw [if_neg (by decide), p1]
      exact c90 z1 (fun r19 => by rw [if_neg (by decide), if_pos (by decide), if_neg (by decide), show nI (trm (cOp 60 1)) = (5 : Int32) by decide])
    · have e : eqF T len q = 0 := if_neg (fun g => c ⟨g.2.1, g.2.2⟩)
      rw [e, h, if_neg (by decide), hsg, bnd, if_neg (fun g => c (k61.mp g))]
      unfold b_X12_compared_74 b_X12_compared_75
      rw [if_pos rfl, p1]
      exact c90 z0 (fun r19 => by rw [if_neg (by decide), if_pos (by decide), if_pos (by decide), show nI (trm (cOp 60 0)) = (4 : Int32) by decide])
  · have e : eqF T len q = 0 := if_neg (fun g => by omega)
    rw [e, h, if_pos (show nI 61 = (61 : Int32) from rfl)]
    unfold b_X12_compared_74 b_X12_compared_75
    rw [if_pos rfl, p1]
    exact c90 z0 (fun r19 => by rw [if_pos (by decide), show nI (trm (cOp 61 0)) = (6 : Int32) by decide])
  · by_cases c : q + 1 < len ∧ T (q + 1) = 61
    · have e : eqF T len q = 1 := if_pos ⟨Or.inr h, c.1, c.2⟩
      rw [e, h, if_neg (by decide), hsg, bnd, if_pos (k61.mpr c)]
      unfold b_X12_compared_75
      rw [if_neg (by decide), p1]
      exact c90 z1 (fun r19 => by rw [if_neg (by decide), if_neg (by decide), if_neg (by decide), show nI (trm (cOp 62 1)) = (7 : Int32) by decide])
    · have e : eqF T len q = 0 := if_neg (fun g => c ⟨g.2.1, g.2.2⟩)
      rw [e, h, if_neg (by decide), hsg, bnd, if_neg (fun g => c (k61.mp g))]
      unfold b_X12_compared_74 b_X12_compared_75
      rw [if_pos rfl, p1]
      exact c90 z0 (fun r19 => by rw [if_neg (by decide), if_neg (by decide), if_pos (by decide), show nI (trm (cOp 62 0)) = (8 : Int32) by decide])
/-- the reference behind a fault of the first sum -/
theorem m_c37F (hl : len ≤ 400) (hT : ∀ i, i < len → T i < 256) {f r p : Nat} (hf : f ≠ 0) (hf2 : f ≤ 4000) {σ : MS} (h : FltM T len f σ) (h38 : sI σ 0 38 = nI 12) (e30 : sI σ 0 30 = nI p) (hp : p < len) (hs : sgC (T p)) : ∃ σ', b_X12_compared_37 (nI (T p)) σ = some σ' ∧ FQ r σ σ' ∧ FltM T len f σ' := by
  obtain ⟨σc, c1, c2, c3⟩ := m_countF (r := r) hf hf2 h.2.2 (sI σ 0 30)
  have hc := h.fw c2 (c3 30 (by decide)) (c3 31 (by decide))
  have e30c : sI σc 0 30 = nI p := by rw [c3 30 (by decide)]; exact e30
  rw [m_c37 hl hT hc.1 hp hs e30c c1]
  have := eqF_le T len p
  have f1 : FQ r σc (wI (wI σc 0 30 (nI (p + 1))) 0 30 (nI (p + 1 + eqF T len p))) := (FQ.w0 r _ _ (by decide)).trans (FQ.w0 r _ _ (by decide))
  have hd : FltM T len f (wI (wI σc 0 30 (nI (p + 1))) 0 30 (nI (p + 1 + eqF T len p))) := ⟨hc.1.fw f1, ⟨p + 1 + eqF T len p, by omega, by rw [sI_r, if_pos rfl]⟩, by rw [sI_r, if_neg (by decide), sI_r, if_neg (by decide)]; exact hc.2.2⟩
  obtain ⟨σ2, b1, b2, b3⟩ := m_sumF (r := r) hl hT hf hf2 hd (by rw [sI_r, if_neg (by decide), sI_r, if_neg (by decide), c3 38 (by decide)]; exact h38)
  rw [b1, bnd, m_entryF hf hf2 b3.2.2]
  exact ⟨σ2, rfl, c2.trans (f1.trans b2), b3⟩
theorem m_cmpS (hl : len ≤ 400) (hT : ∀ i, i < len → T i < 256) {q : Nat} {σ σs : MS} (h : f_X12_sum σ = some σs) (tm : TM len T σs) (hq : q ≤ 1000) (e30 : sI σs 0 30 = nI q) : f_X12_compared σ = if q < len ∧ (T q = 60 ∨ T q = 61 ∨ T q = 62) then b_X12_compared_37 (nI (T q)) σs else (f_X12_fails (0 : Int32) (nI q) σs).bind (fun r34 => some r34) := by
  have hsg := m_sign tm hl hT (by omega) e30
  have k60 : ((hI (cc T len q)) = (60 : Int32)) ↔ (q < len ∧ T q = 60) := ccI (by decide) hT
  have k61 : ((hI (cc T len q)) = (61 : Int32)) ↔ (q < len ∧ T q = 61) := ccI (by decide) hT
  have k62 : ((hI (cc T len q)) = (62 : Int32)) ↔ (q < len ∧ T q = 62) := ccI (by decide) hT
  unfold f_X12_compared b_X12_compared_0
  rw [h, bnd, hsg, bnd, e30]
  by_cases c : q < len
  · have ecc : hI (cc T len q) = nI (T q) := by rw [cc_in c]; exact hI_s _
    by_cases c0 : T q = 60
    · rw [if_pos (k60.mpr ⟨c, c0⟩), if_pos ⟨c, Or.inl c0⟩, ecc]
    · rw [if_neg (fun g => c0 (k60.mp g).2)]
      by_cases c1 : T q = 61
      · rw [if_pos (k61.mpr ⟨c, c1⟩), if_pos ⟨c, Or.inr (Or.inl c1)⟩, ecc]
      · rw [if_neg (fun g => c1 (k61.mp g).2)]
        by_cases c2 : T q = 62
        · rw [if_pos (k62.mpr ⟨c, c2⟩), if_pos ⟨c, Or.inr (Or.inr c2)⟩, ecc]
        · rw [if_neg (fun g => c2 (k62.mp g).2), if_neg (fun g => by omega)]
  · rw [if_neg (fun g => c (k60.mp g).1), if_neg (fun g => c (k61.mp g).1), if_neg (fun g => c (k62.mp g).1), if_neg (fun g => c g.1)]
end CN
