/-! ===== pure: both read a comparison ===== -/
section CM
variable {len : Nat} {T : Nat → Nat}
def sgC (s : Nat) : Prop := s = 60 ∨ s = 61 ∨ s = 62
/-- is it the sign with = behind it -/
def eqF (T : Nat → Nat) (len q : Nat) : Nat := if (T q = 60 ∨ T q = 62) ∧ q + 1 < len ∧ T (q + 1) = 61 then 1 else 0
def cOp (s f : Nat) : Nat := if s = 60 then 7 + f else if s = 61 then 9 else 11 - f
theorem eqF_le (T : Nat → Nat) (len q : Nat) : eqF T len q ≤ 1 := by unfold eqF; split <;> omega
theorem cOp_ok {s f : Nat} (hs : sgC s) (hf : f ≤ 1) : 7 ≤ cOp s f ∧ cOp s f ≤ 11 ∧ lev (cOp s f) = 4 := by
  have hf' : f = 0 ∨ f = 1 := by omega
  rcases hs with h | h | h <;> rcases hf' with g | g <;> subst h <;> subst g <;> decide
theorem tok_cm {q : Nat} {σ : MS} (hT : ∀ i, i < len → T i < 256) (hq : q < len) (hs : sgC (T q)) (tk : TokX 20 T len q σ) : sI σ 20 1 = nI (q + 1 + eqF T len q) ∧ q + 1 + eqF T len q ≤ len ∧ f_X7_operationOfSign σ = some (nI (cOp (T q) (eqF T len q))) ∧ hI (opOf (if eqF T len q = 1 then T q + 256 else T q)) = nI (cOp (T q) (eqF T len q)) := by
  unfold sgC at hs
  rcases tk with ⟨g, _⟩ | ⟨_, g, _⟩ | ⟨_, g, _⟩ | ⟨_, _, _, g2, g⟩
  · omega
  · omega
  · omega
  · rcases g with ⟨ga, gb, gc, g5, g1⟩ | ⟨gn, g5, g1⟩
    · have e : eqF T len q = 1 := if_pos ⟨ga, gb, gc⟩
      rw [e]
      have hop := x_opOf g2 g5 (by omega)
      have hc : hI (opOf (T q + 256)) = nI (cOp (T q) 1) := by
        rcases ga with h | h <;> rw [h] <;> decide
      exact ⟨g1, by omega, by rw [hop, hc], by rw [if_pos rfl]; exact hc⟩
    · have e : eqF T len q = 0 := if_neg gn
      rw [e]
      have hop := x_opOf g2 g5 (by omega)
      have hc : hI (opOf (T q)) = nI (cOp (T q) 0) := by
        rcases hs with h | h | h <;> rw [h] <;> decide
      exact ⟨g1, by omega, by rw [hop, hc], by rw [if_neg (by decide)]; exact hc⟩
theorem tok_no {q : Nat} {σ : MS} (hT : ∀ i, i < len → T i < 256) (h1 : ¬ (q < len ∧ sgS (T q))) (h2 : ¬ (q < len ∧ sgC (T q))) (tk : TokX 20 T len q σ) : f_X7_operationOfSign σ = some (hI 0) := by
  rcases tk with ⟨_, g, _⟩ | ⟨_, _, g, _⟩ | ⟨_, _, g, _⟩ | ⟨gl, _, _, g2, g⟩
  · exact x_opNo (by rw [g]; decide)
  · exact x_opNo (by rw [g]; decide)
  · exact x_opNo (by rw [g]; decide)
  · have k1 : ¬ sgS (T q) := fun h => h1 ⟨gl, h⟩
    have k2 : ¬ sgC (T q) := fun h => h2 ⟨gl, h⟩
    unfold sgS at k1
    unfold sgC at k2
    have := hT q gl
    rcases g with ⟨ga, _⟩ | ⟨_, g5, _⟩
    · omega
    · rw [x_opOf g2 g5 (by omega)]
      have : opOf (T q) = 0 := by
        unfold opOf
        repeat' split
        all_goals omega
      rw [this]
theorem CV.pt {σ : MS} {part dep v : Nat} {ws : List Nat} {cs : List Ent} (h : CV σ part dep v ws cs) (k : Nat) : CV (wI σ 17 4 (nI k)) k dep v ws cs := by
  obtain ⟨h1, h2, h3, h4, h5⟩ := h
  exact ⟨by rw [sI_r, if_pos rfl], by rw [sI_r, if_neg (by decide)]; exact h2, by rw [sI_r, if_neg (by decide)]; exact h3, ⟨by rw [sI_r, if_neg (by decide)]; exact h4.1, by rw [sI_wIn _ _ _ _ (by decide)]; exact h4.2⟩, ⟨by rw [sI_r, if_neg (by decide)]; exact h5.1, by rw [sI_wIn _ _ _ _ (by decide)]; exact h5.2⟩⟩
theorem CV.f6 {σ : MS} {part dep v : Nat} {ws : List Nat} {cs : List Ent} (h : CV σ part dep v ws cs) (x : Int32) : CV (wI σ 20 6 x) part dep v ws cs := h.fa (FA.w 20 σ 6 x)
/-- the class at the sign of a comparison -/
theorem it_cmp (hl : len ≤ 400) (hT : ∀ i, i < len → T i < 256) {p y dep v : Nat} {pd ws : List Nat} {cs : List Ent} {σ : MS} (tx : TX len T σ) (hp : p ≤ len) (e1 : sI σ 20 1 = nI p) (h6 : sI σ 20 6 = 0) (h3 : sI σ 17 3 = 2) (hy : y ≤ 400) (hs : ¬ (skB T len p < len ∧ sgS (T (skB T len p)))) (hc : CV σ 1 dep v (pd ++ ws) cs) (hv : v ≤ 60) (hpd : ∀ o, o ∈ pd → o < 7 ∧ 5 ≤ lev o) (hws : ∀ o u', ws = o :: u' → o < 16 ∧ lev o < 5) (hlen : pd.length + ws.length < 64) (hcl : cs.length + pd.length ≤ 401) (hdep : dep < 900) :
    ∃ σ', Rn y σ (y + 1) σ' ∧ FC σ σ' ∧ ((skB T len p < len ∧ sgC (T (skB T len p)) ∧ sI σ' 17 3 = 0 ∧ sI σ' 20 1 = nI (skB T len p + 1 + eqF T len (skB T len p)) ∧ skB T len p + 1 + eqF T len (skB T len p) ≤ len ∧ CV σ' 2 dep (v + 1) ((cOp (T (skB T len p)) (eqF T len (skB T len p))) :: ws) (cs ++ op0 pd) ∧ ((v < 60 ∧ sI σ' 20 6 = 0) ∨ (¬ v < 60 ∧ sI σ' 20 6 = nI (1 + 8 * skB T len p + 3)))) ∨ (¬ (skB T len p < len ∧ sgC (T (skB T len p))) ∧ sI σ' 20 6 = nI (1 + 8 * skB T len p + 0))) := by
  obtain ⟨σ1, a1, a2, a3, a4, a5⟩ := it_has (st := 2) hl hT tx hp e1 h6 h3 (by decide) hy
  have g3 : sI σ1 17 3 = 2 := by rw [a2.2 17 (by decide)]; exact h3
  have hc1 := hc.fa a2
  have hends : f_X7_endsFact σ1 = some 0 := by
    unfold f_X7_endsFact b_X7_endsFact_0
    rw [hc1.1, if_neg (by decide)]; rfl
  have step : ∀ n, b_X7_readClause_2 (n + 1) (nI y) σ = (f_X7_goOnFromValue σ1).bind (fun s => b_X7_readClause_2 n (nI (y + 1)) s) := fun n => by
    rw [a1, if_pos (show nI 2 = (2 : Int32) from rfl), hends, bnd, if_pos (show (0 : Int32) = 0 from rfl)]
    unfold b_X7_readClause_54
    rw [g3, if_neg (by decide)]
    unfold b_X7_readClause_79
    rw [g3, if_neg (by decide), if_neg (by decide), if_pos rfl]
    unfold b_X7_readClause_133
    rw [nl_add]
  by_cases c : skB T len p < len ∧ sgC (T (skB T len p))
  · obtain ⟨t1, t2, t3, t4⟩ := tok_cm hT c.1 c.2 a5
    obtain ⟨o1, o2, o3⟩ := cOp_ok c.2 (eqF_le T len (skB T len p))
    have hsum : f_X7_isOfSums (nI (cOp (T (skB T len p)) (eqF T len (skB T len p)))) σ1 = some 0 := by
      have h : ∀ o, o ≤ 11 → 7 ≤ o → (if nI o = (-1 : Int32) then some (0 : Int32) else chk (inb (nI o) 16) (if (levT.getD (ix (nI o)) 0) < (5 : Int32) then some (0 : Int32) else some 1)) = some 0 := by decide +kernel
      rw [← h _ o2 o1]; rfl
    generalize cOp (T (skB T len p)) (eqF T len (skB T len p)) = o at *
    generalize eqF T len (skB T len p) = fl at *
    have hcnt := x_count hc1.2.2.1 hv a3 a4
    have hn0 : nts pd = 0 := nts_0 pd (fun o ho => (hpd o ho).1)
    have key : ∀ σb, CV σb 1 dep (v + 1) (pd ++ ws) cs → FC σ1 σb → sI σb 20 1 = sI σ1 20 1 → f_X7_countValue σ1 = some σb → ∃ σ', f_X7_goOnFromValue σ1 = some σ' ∧ FC σ1 σ' ∧ sI σ' 17 3 = 0 ∧ sI σ' 20 = sI σb 20 ∧ CV σ' 2 dep (v + 1) (o :: ws) (cs ++ op0 pd) := by
      intro σb hb f1 f2 hcv
      obtain ⟨σ2, b1, b2, b3, b4, b5⟩ := x_set (L := 5) (x := (5 : Int32)) rfl (by decide) (t := pd) (u := ws) (dep := dep) (by rw [hn0]; exact hb) (fun o ho => ⟨by have := (hpd o ho).1; omega, (hpd o ho).2⟩) hws (by omega) hcl (by omega)
      obtain ⟨σ3, d1, d2, d3, d4, d5⟩ := x_psh (o := o) rfl b2 (by omega)
      refine ⟨wI (wI σ3 17 4 2) 17 3 0, ?_, f1.trans (b3.trans (d3.trans ((FC.w _ _ _ (by decide)).trans (FC.w _ _ _ (by decide))))), by rw [sI_r, if_pos rfl], by rw [sI_wIn _ _ _ _ (by decide), sI_wIn _ _ _ _ (by decide), d5, b5], (d2.pt 2).w 0⟩
      unfold f_X7_goOnFromValue b_X7_goOnFromValue_0
      rw [t3, bnd, hsum, bnd, if_pos rfl, hc1.1, if_pos (show nI 1 = (1 : Int32) from rfl)]
      unfold f_X7_compareWith b_X7_compareWith_0
      rw [if_neg (n_neg1 (by omega)), hcv, bnd, b1, bnd, d1, bnd]
      rfl
    by_cases c6 : v < 60
    · rw [if_pos c6] at hcnt
      obtain ⟨σ', k1, k2, k3, k4, k5⟩ := key _ (hc1.cnt (v + 1)) (FC.w _ _ _ (by decide)) (by rw [sI_wIn _ _ _ _ (by decide)]) hcnt
      have e20 : sI σ' 20 = sI σ1 20 := by rw [k4, sI_wIn _ _ _ _ (by decide)]
      exact ⟨σ', Rn.one (fun n => by rw [step, k1, bnd]), a2.fc.trans k2, Or.inl ⟨c.1, c.2, k3, by rw [e20]; exact t1, t2, k5, Or.inl ⟨c6, by rw [e20]; exact a3⟩⟩⟩
    · rw [if_neg c6] at hcnt
      obtain ⟨σ', k1, k2, k3, k4, k5⟩ := key _ ((hc1.f6 _).cnt (v + 1)) ((FC.w _ _ _ (by decide)).trans (FC.w _ _ _ (by decide))) (by rw [sI_wIn _ _ _ _ (by decide), sI_r, if_neg (by decide)]) hcnt
      exact ⟨σ', Rn.one (fun n => by rw [step, k1, bnd]), a2.fc.trans k2, Or.inl ⟨c.1, c.2, k3, by rw [k4, sI_wIn _ _ _ _ (by decide), sI_r, if_neg (by decide)]; exact t1, t2, k5, Or.inr ⟨c6, by rw [k4, sI_wIn _ _ _ _ (by decide), sI_r, if_pos rfl]⟩⟩⟩
  · have t3 := tok_no hT hs c a5
    have hsum : f_X7_isOfSums (hI 0) σ1 = some 0 := rfl
    refine ⟨wI σ1 20 6 (nI (1 + 8 * skB T len p + 0)), Rn.one (fun n => ?_), a2.fc.trans (FC.w _ _ _ (by decide)), Or.inr ⟨c, by rw [sI_r, if_pos rfl]⟩⟩
    rw [step]
    unfold f_X7_goOnFromValue b_X7_goOnFromValue_0
    rw [t3, bnd, hsum, bnd, if_pos rfl, hc1.1, if_pos (show nI 1 = (1 : Int32) from rfl)]
    unfold f_X7_compareWith b_X7_compareWith_0
    rw [if_pos (show hI 0 = (-1 : Int32) from rfl), x_fail (x := (0 : Int32)) (c := 0) rfl a3 a4]
    rfl
end CM
