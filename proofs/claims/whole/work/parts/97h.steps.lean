/-! ===== pure: the class's steps at a sign of a sum ===== -/
section ST
variable {len : Nat} {T : Nat → Nat}
def Rn (y : Nat) (σ : MS) (y' : Nat) (σ' : MS) : Prop := y ≤ y' ∧ ∀ n, b_X7_readClause_2 (n + (y' - y)) (nI y) σ = b_X7_readClause_2 n (nI y') σ'
theorem Rn.refl (y : Nat) (σ : MS) : Rn y σ y σ := ⟨Nat.le_refl _, fun n => by rw [Nat.sub_self]; rfl⟩
theorem Rn.trans {y y' y'' : Nat} {σ σ' σ'' : MS} (h : Rn y σ y' σ') (g : Rn y' σ' y'' σ'') : Rn y σ y'' σ'' := by
  have h1 := h.1
  have h2 := g.1
  refine ⟨by omega, fun n => ?_⟩
  rw [show n + (y'' - y) = (n + (y'' - y')) + (y' - y) by omega, h.2, g.2]
theorem Rn.one {y : Nat} {σ σ' : MS} (h : ∀ n, b_X7_readClause_2 (n + 1) (nI y) σ = b_X7_readClause_2 n (nI (y + 1)) σ') : Rn y σ (y + 1) σ' := ⟨by omega, fun n => by rw [show n + (y + 1 - y) = n + 1 by omega]; exact h n⟩
/-- a class that wants a value reads its next token -/
theorem it_value (hl : len ≤ 400) (hT : ∀ i, i < len → T i < 256) {p y : Nat} {σ : MS} (tx : TX len T σ) (hp : p ≤ len) (e1 : sI σ 20 1 = nI p) (h6 : sI σ 20 6 = 0) (h3 : sI σ 17 3 = 0) (hy : y ≤ 400) : ∃ σ1, (∀ n, b_X7_readClause_2 (n + 1) (nI y) σ = (f_X7_readValue σ1).bind (fun s => b_X7_readClause_2 n (nI (y + 1)) s)) ∧ FA 20 σ σ1 ∧ sI σ1 20 6 = 0 ∧ sI σ1 20 3 = nI (skB T len p) ∧ TokX 20 T len (skB T len p) σ1 := by
  obtain ⟨σ1, a1, a2, a3, a4, a5⟩ := x_adv (a := 20) (by decide) (by decide) hl hT tx hp e1
  refine ⟨σ1, fun n => ?_, a2, by rw [a3]; exact h6, a4, a5⟩
  have g3 : sI σ1 17 3 = 0 := by rw [a2.2 17 (by decide)]; exact h3
  have t1 : b_X7_readClause_2 (n + 1) (nI y) σ = (f_X4_advance 20 σ).bind (fun r31 => (if (sI r31 17 3) = (2 : Int32) then (f_X7_endsFact r31).bind (fun r33 => (if r33 = 0 then (b_X7_readClause_54 (b_X7_readClause_2 n) (nI y) r31) else (b_X7_readClause_54 (b_X7_readClause_2 n) (nI y) (wI r31 17 3 (3 : Int32))))) else (b_X7_readClause_54 (b_X7_readClause_2 n) (nI y) r31))) := by
    show (if (400 : Int32) < nI y then _ else _) = _
    rw [if_neg (by rw [ln_lt (by decide) (by omega)]; omega), h3, if_neg (by decide), h6, if_pos rfl]
  rw [t1, a1, bnd, g3, if_neg (by decide)]
  unfold b_X7_readClause_54
  rw [g3, if_neg (by decide)]
  unfold b_X7_readClause_79
  rw [g3, if_pos rfl]
  unfold b_X7_readClause_133
  rw [nl_add]
/-- one that has a value -/
theorem it_has (hl : len ≤ 400) (hT : ∀ i, i < len → T i < 256) {p y st : Nat} {σ : MS} (tx : TX len T σ) (hp : p ≤ len) (e1 : sI σ 20 1 = nI p) (h6 : sI σ 20 6 = 0) (h3 : sI σ 17 3 = nI st) (hst : st < 4) (hy : y ≤ 400) : ∃ σ1, (∀ n, b_X7_readClause_2 (n + 1) (nI y) σ = (if nI st = (2 : Int32) then (f_X7_endsFact σ1).bind (fun r33 => (if r33 = 0 then (b_X7_readClause_54 (b_X7_readClause_2 n) (nI y) σ1) else (b_X7_readClause_54 (b_X7_readClause_2 n) (nI y) (wI σ1 17 3 (3 : Int32))))) else (b_X7_readClause_54 (b_X7_readClause_2 n) (nI y) σ1))) ∧ FA 20 σ σ1 ∧ sI σ1 20 6 = 0 ∧ sI σ1 20 3 = nI (skB T len p) ∧ TokX 20 T len (skB T len p) σ1 := by
  obtain ⟨σ1, a1, a2, a3, a4, a5⟩ := x_adv (a := 20) (by decide) (by decide) hl hT tx hp e1
  refine ⟨σ1, fun n => ?_, a2, by rw [a3]; exact h6, a4, a5⟩
  have g3 : sI σ1 17 3 = nI st := by rw [a2.2 17 (by decide)]; exact h3
  have t1 : b_X7_readClause_2 (n + 1) (nI y) σ = (f_X4_advance 20 σ).bind (fun r31 => (if (sI r31 17 3) = (2 : Int32) then (f_X7_endsFact r31).bind (fun r33 => (if r33 = 0 then (b_X7_readClause_54 (b_X7_readClause_2 n) (nI y) r31) else (b_X7_readClause_54 (b_X7_readClause_2 n) (nI y) (wI r31 17 3 (3 : Int32))))) else (b_X7_readClause_54 (b_X7_readClause_2 n) (nI y) r31))) := by
    show (if (400 : Int32) < nI y then _ else _) = _
    rw [if_neg (by rw [ln_lt (by decide) (by omega)]; omega), h3, if_neg (by rw [nl_eq (by decide) (by omega)]; omega), h6, if_pos rfl]
  rw [t1, a1, bnd, g3]
/-- which operation a sign is; 0 if none -/
def opOf (s : Nat) : Nat := if s = 37 then 5 else if s = 42 then 3 else if s = 43 then 6 else if s = 45 then 7 else if s = 47 then 4 else if s = 60 then 8 else if s = 61 then 10 else if s = 62 then 12 else if s = 316 then 9 else if s = 318 then 11 else 0
theorem opOf_le (s : Nat) : opOf s ≤ 12 ∧ (opOf s = 0 ∨ 3 ≤ opOf s) := by
  unfold opOf
  repeat' split
  all_goals omega
theorem x_opOf {σ : MS} {s : Nat} (h2 : sI σ 20 2 = 3) (h5 : sI σ 20 5 = nI s) (hs : s < 1000) : f_X7_operationOfSign σ = some (hI (opOf s)) := by
  unfold f_X7_operationOfSign b_X7_operationOfSign_0 opOf
  rw [if_pos h2, h5]
  repeat rw [q_nl_eq (by decide) (by omega)]
  repeat' split
  all_goals first | rfl | omega
theorem x_opNo {σ : MS} (h2 : ¬ sI σ 20 2 = 3) : f_X7_operationOfSign σ = some (hI 0) := by
  unfold f_X7_operationOfSign b_X7_operationOfSign_0
  rw [if_neg h2]; rfl
theorem x_sums (σ : MS) : ∀ o, o ≤ 12 → (o = 0 ∨ 3 ≤ o) → f_X7_isOfSums (hI o) σ = some (nI (if 3 ≤ o ∧ o ≤ 7 then 1 else 0)) := by
  intro o ho ho2
  have h : ∀ o, o ≤ 12 → (o = 0 ∨ 3 ≤ o) → (if hI o = (-1 : Int32) then some (0 : Int32) else chk (inb (hI o) 16) (if (levT.getD (ix (hI o)) 0) < (5 : Int32) then some (0 : Int32) else some 1)) = some (nI (if 3 ≤ o ∧ o ≤ 7 then 1 else 0)) := by decide +kernel
  rw [← h o ho ho2]
  rfl
end ST
section SG
variable {len : Nat} {T : Nat → Nat}
theorem CV.fa {σ σ' : MS} {part dep v : Nat} {ws : List Nat} {cs : List Ent} (h : CV σ part dep v ws cs) (g : FA 20 σ σ') : CV σ' part dep v ws cs := by
  obtain ⟨h1, h2, h3, h4, h5⟩ := h
  have e17 := g.2 17 (by decide)
  have e18 := g.2 18 (by decide)
  have e19 := g.2 19 (by decide)
  exact ⟨by rw [e17]; exact h1, by rw [e17]; exact h2, by rw [e17]; exact h3, ⟨by rw [e17]; exact h4.1, by rw [e18]; exact h4.2⟩, ⟨by rw [e17]; exact h5.1, by rw [e19]; exact h5.2⟩⟩
theorem CV.w {σ : MS} {part dep v : Nat} {ws : List Nat} {cs : List Ent} (h : CV σ part dep v ws cs) (x : Int32) : CV (wI σ 17 3 x) part dep v ws cs := by
  obtain ⟨h1, h2, h3, h4, h5⟩ := h
  exact ⟨by rw [sI_r, if_neg (by decide)]; exact h1, by rw [sI_r, if_neg (by decide)]; exact h2, by rw [sI_r, if_neg (by decide)]; exact h3, ⟨by rw [sI_r, if_neg (by decide)]; exact h4.1, by rw [sI_wIn _ _ _ _ (by decide)]; exact h4.2⟩, ⟨by rw [sI_r, if_neg (by decide)]; exact h5.1, by rw [sI_wIn _ _ _ _ (by decide)]; exact h5.2⟩⟩
/-- what is settled, over a CV -/
theorem x_set {L : Nat} {x : Int32} (hx : x = nI L) (hL : L < 10) {t u : List Nat} {cs : List Ent} {σ : MS} {part dep v : Nat} (h : CV σ part (dep + nts t) v (t ++ u) cs) (ht : ∀ o, o ∈ t → o < 16 ∧ L ≤ lev o) (hu : ∀ o u', u = o :: u' → o < 16 ∧ lev o < L) (hl : t.length + u.length ≤ 64) (hc : cs.length + t.length ≤ 401) (hd : dep + nts t < 1000) :
    ∃ σ', f_X7_settleDownTo x σ = some σ' ∧ CV σ' part dep v u (cs ++ op0 t) ∧ FC σ σ' ∧ sI σ' 17 3 = sI σ 17 3 ∧ sI σ' 20 = sI σ 20 := by
  subst hx
  obtain ⟨h1, h2, h3, h4, h5⟩ := h
  obtain ⟨σ', a1, a2, a3, a4, a5, a6, a7⟩ := x_settle hL t u cs dep FU σ ht hu hl hc (by unfold FU; omega) h4 h5 h2 hd
  exact ⟨σ', a1, ⟨by rw [a6 4 (by decide) (by decide) (by decide)]; exact h1, a4, by rw [a6 6 (by decide) (by decide) (by decide)]; exact h3, a2, a3⟩, a5, a6 3 (by decide) (by decide) (by decide), a7⟩
theorem x_psh {o : Nat} {x : Int32} (hx : x = nI o) {ws : List Nat} {cs : List Ent} {σ : MS} {part dep v : Nat} (h : CV σ part dep v ws cs) (hl : ws.length < 64) : ∃ σ', f_X7_push x σ = some σ' ∧ CV σ' part dep v (o :: ws) cs ∧ FC σ σ' ∧ sI σ' 17 3 = sI σ 17 3 ∧ sI σ' 20 = sI σ 20 := by
  obtain ⟨h1, h2, h3, h4, h5⟩ := h
  obtain ⟨σ', a1, a2, a3, a4, a5, a6⟩ := x_push hx h4 hl
  exact ⟨σ', a1, ⟨by rw [a4 4 (by decide)]; exact h1, by rw [a4 5 (by decide)]; exact h2, by rw [a4 6 (by decide)]; exact h3, a2, by rw [a4 8 (by decide)]; exact h5.1, by rw [a5]; exact h5.2⟩, a3, a4 3 (by decide), a6⟩
/-- a sign of a sum stands at q -/
def sgS (s : Nat) : Prop := s = 37 ∨ s = 42 ∨ s = 43 ∨ s = 45 ∨ s = 47
theorem tok_sg {q : Nat} {σ : MS} (hq : q < len) (hs : sgS (T q)) (tk : TokX 20 T len q σ) : sI σ 20 2 = 3 ∧ sI σ 20 5 = nI (T q) ∧ sI σ 20 1 = nI (q + 1) := by
  unfold sgS at hs
  rcases tk with ⟨g, _⟩ | ⟨_, g, _⟩ | ⟨_, g, _⟩ | ⟨_, _, _, g2, g⟩
  · omega
  · omega
  · omega
  · rcases g with ⟨g, _⟩ | ⟨_, g5, g1⟩
    · omega
    · exact ⟨g2, g5, g1⟩
theorem op_sg {s : Nat} (hs : sgS s) : 3 ≤ opOf s ∧ opOf s ≤ 7 ∧ lev (opOf s - 1) = (if s = 43 ∨ s = 45 then 5 else 6) ∧ s < 1000 := by
  rcases hs with h | h | h | h | h <;> subst h <;> decide
theorem nts_0 : ∀ (t : List Nat), (∀ o, o ∈ t → o < 7) → nts t = 0
  | [], _ => rfl
  | o :: t, h => by
    have := h o (by simp)
    unfold nts
    rw [List.filter_cons_of_neg (by simp; omega)]
    exact nts_0 t (fun o' ho => h o' (List.mem_cons_of_mem _ ho))
theorem it_sign (hl : len ≤ 400) (hT : ∀ i, i < len → T i < 256) {p y part dep v : Nat} {pd ws : List Nat} {cs : List Ent} {σ : MS} (tx : TX len T σ) (hp : p ≤ len) (e1 : sI σ 20 1 = nI p) (h6 : sI σ 20 6 = 0) (h3 : sI σ 17 3 = 2) (hy : y ≤ 400) (hq : skB T len p < len) (hs : sgS (T (skB T len p))) (hc : CV σ part dep v (pd ++ ws) cs) (hpart : part < 3) (hpd : ∀ o, o ∈ pd → o < 7 ∧ lev (opOf (T (skB T len p)) - 1) ≤ lev o) (hws : ∀ o u', ws = o :: u' → o < 16 ∧ lev o < lev (opOf (T (skB T len p)) - 1)) (hlen : pd.length + ws.length < 64) (hcl : cs.length + pd.length ≤ 401) (hdep : dep < 900) :
    ∃ σ', Rn y σ (y + 1) σ' ∧ FC σ σ' ∧ sI σ' 17 3 = 0 ∧ sI σ' 20 1 = nI (skB T len p + 1) ∧ sI σ' 20 6 = 0 ∧ CV σ' part dep v ((opOf (T (skB T len p)) - 1) :: ws) (cs ++ op0 pd) := by
  obtain ⟨σ1, a1, a2, a3, a4, a5⟩ := it_has (st := 2) hl hT tx hp e1 h6 h3 (by decide) hy
  obtain ⟨t2, t5, t1⟩ := tok_sg hq hs a5
  obtain ⟨o1, o2, o3, o4⟩ := op_sg hs
  have hop := x_opOf t2 t5 o4
  have hsum := x_sums σ1 _ (opOf_le (T (skB T len p))).1 (opOf_le (T (skB T len p))).2
  rw [if_pos ⟨o1, o2⟩] at hsum
  have g3 : sI σ1 17 3 = 2 := by rw [a2.2 17 (by decide)]; exact h3
  have hc1 := hc.fa a2
  have hends : f_X7_endsFact σ1 = some 0 := by
    unfold f_X7_endsFact b_X7_endsFact_0
    by_cases c : sI σ1 17 4 = (2 : Int32)
    · rw [if_pos c, hop, bnd, hsum, bnd, if_neg (show ¬ nI 1 = 0 by decide)]; rfl
    · rw [if_neg c]; rfl
  generalize hs' : opOf (T (skB T len p)) = k at *
  have hn0 : nts pd = 0 := nts_0 pd (fun o ho => (hpd o ho).1)
  have ehk : hI k = nI (k - 1) := by
    show nI k - 1 = nI (k - 1)
    rw [nl_sub (by omega)]
  have hlv : levT.getD (k - 1) 0 = nI (lev (k - 1)) := lev_ok _ (by omega)
  obtain ⟨σ2, b1, b2, b3, b4, b5⟩ := x_set (L := lev (k - 1)) rfl (lev_lt _ (by omega)) (t := pd) (u := ws) (dep := dep) (by rw [hn0]; exact hc1) (fun o ho => ⟨by have := (hpd o ho).1; omega, (hpd o ho).2⟩) hws (by omega) hcl (by omega)
  obtain ⟨σ3, d1, d2, d3, d4, d5⟩ := x_psh (o := k - 1) rfl b2 (by omega)
  refine ⟨wI σ3 17 3 0, Rn.one (fun n => ?_), a2.fc.trans (b3.trans (d3.trans (FC.w _ _ _ (by decide)))), by rw [sI_r, if_pos rfl], by rw [sI_wIn _ _ _ _ (by decide), d5, b5]; exact t1, by rw [sI_wIn _ _ _ _ (by decide), d5, b5]; exact a3, d2.w 0⟩
  rw [a1, if_pos (show nI 2 = (2 : Int32) from rfl), hends, bnd, if_pos (show (0 : Int32) = 0 from rfl)]
  unfold b_X7_readClause_54
  rw [g3, if_neg (by decide)]
  unfold b_X7_readClause_79
  rw [g3, if_neg (by decide), if_neg (by decide), if_pos rfl]
  unfold f_X7_goOnFromValue b_X7_goOnFromValue_0
  rw [hop, bnd, hsum, bnd, if_neg (show ¬ nI 1 = 0 by decide), ehk, chk_t (in_n (by omega) (by decide)), ix_n (by omega), hlv, b1, bnd, d1, bnd]
  unfold b_X7_goOnFromValue_54 b_X7_readClause_133
  rw [bnd, nl_add]
end SG
