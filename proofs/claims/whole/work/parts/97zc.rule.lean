/-! ===== pure: the clauses of a rule, both ===== -/
section RU
variable {len : Nat} {T : Nat → Nat}
def entsOf : List Cls → List Ent
  | [] => []
  | c :: R => c.1 ++ c.2 ++ entsOf R
theorem entsOf_app : ∀ (R S : List Cls), entsOf (R ++ S) = entsOf R ++ entsOf S
  | [], S => rfl
  | c :: R, S => by
    show c.1 ++ c.2 ++ entsOf (R ++ S) = c.1 ++ c.2 ++ entsOf R ++ entsOf S
    rw [entsOf_app R S]; simp
theorem codesOf_app : ∀ (R S : List Cls), codesOf (R ++ S) = codesOf R ++ codesOf S
  | [], S => rfl
  | c :: R, S => by
    show cod1 c ++ codesOf (R ++ S) = cod1 c ++ codesOf R ++ codesOf S
    rw [codesOf_app R S]; simp
theorem codesOf_len : ∀ (R : List Cls), (codesOf R).length = (entsOf R).length + R.length
  | [] => rfl
  | c :: R => by
    show (cod1 c ++ codesOf R).length = (c.1 ++ c.2 ++ entsOf R).length + (R.length + 1)
    have := codesOf_len R
    simp [cod1]; omega
def Ofs (σ : MS) (r : Nat) (R : List Cls) : Prop := ∀ c, c < R.length → sI σ 32 (12 * r + c) = nI (entsOf (R.take c)).length ∧ sI σ 33 (12 * r + c) = nI ((entsOf (R.take c)).length + (R.getD c ([], [])).1.length) ∧ sI σ 34 (12 * r + c) = nI ((entsOf (R.take c)).length + (R.getD c ([], [])).1.length + (R.getD c ([], [])).2.length)
theorem Ofs.snoc {σ σ' : MS} {r : Nat} {R : List Cls} {A B : List Ent} (h : Ofs σ r R) (hf : ∀ i, i ≠ 12 * r + R.length → sI σ' 32 i = sI σ 32 i ∧ sI σ' 33 i = sI σ 33 i ∧ sI σ' 34 i = sI σ 34 i) (h2 : sI σ' 32 (12 * r + R.length) = nI (entsOf R).length) (h3 : sI σ' 33 (12 * r + R.length) = nI ((entsOf R).length + A.length)) (h4 : sI σ' 34 (12 * r + R.length) = nI ((entsOf R).length + A.length + B.length)) : Ofs σ' r (R ++ [(A, B)]) := by
  intro c hc
  by_cases e : c = R.length
  · subst e
    have e1 : (R ++ [(A, B)]).take R.length = R := by simp
    have e2 : (R ++ [(A, B)]).getD R.length ([], []) = (A, B) := by simp
    rw [e1, e2]; exact ⟨h2, h3, h4⟩
  · have hc' : c < R.length := by simp at hc; omega
    have e1 : (R ++ [(A, B)]).take c = R.take c := List.take_append_of_le_length (by omega)
    have e2 : (R ++ [(A, B)]).getD c ([], []) = R.getD c ([], []) := by
      rw [List.getD_eq_getElem?_getD, List.getD_eq_getElem?_getD, List.getElem?_append_left hc']
    obtain ⟨g1, g2, g3⟩ := hf (12 * r + c) (by omega)
    rw [e1, e2, g1, g2, g3]; exact h c hc'
/-- what a rule that is read leaves -/
def FL (r : Nat) (σ σ' : MS) : Prop := Sm σ σ' ∧ (∀ b, b ≠ 0 → b ≠ 29 → b ≠ 30 → b ≠ 32 → b ≠ 33 → b ≠ 34 → b ≠ 35 → sI σ' b = sI σ b) ∧ (∀ j, j < 30 ∨ j = 32 ∨ j = 33 ∨ 37 < j → sI σ' 0 j = sI σ 0 j) ∧ (∀ i, i < 300 * r → sI σ' 29 i = sI σ 29 i ∧ sI σ' 30 i = sI σ 30 i) ∧ (∀ i, i < 12 * r → sI σ' 32 i = sI σ 32 i ∧ sI σ' 33 i = sI σ 33 i ∧ sI σ' 34 i = sI σ 34 i)
theorem FL.trans {r : Nat} {σ σ' σ'' : MS} (h : FL r σ σ') (g : FL r σ' σ'') : FL r σ σ'' := ⟨h.1.trans g.1, fun b h1 h2 h3 h4 h5 h6 h7 => (g.2.1 b h1 h2 h3 h4 h5 h6 h7).trans (h.2.1 b h1 h2 h3 h4 h5 h6 h7), fun j hj => (g.2.2.1 j hj).trans (h.2.2.1 j hj), fun i hi => ⟨(g.2.2.2.1 i hi).1.trans (h.2.2.2.1 i hi).1, (g.2.2.2.1 i hi).2.trans (h.2.2.2.1 i hi).2⟩, fun i hi => ⟨(g.2.2.2.2 i hi).1.trans (h.2.2.2.2 i hi).1, (g.2.2.2.2 i hi).2.1.trans (h.2.2.2.2 i hi).2.1, (g.2.2.2.2 i hi).2.2.trans (h.2.2.2.2 i hi).2.2⟩⟩
theorem FK.fl {r k : Nat} {σ σ' : MS} (h : FK r k σ σ') : FL r σ σ' := ⟨h.1, h.2.1, h.2.2.1, h.2.2.2.1, fun i hi => h.2.2.2.2 i (by omega)⟩
theorem FR.fl {σ σ' : MS} (r : Nat) (h : FR σ σ') : FL r σ σ' := ((h.f2 r).fk 0).fl
/-- both stand before a clause -/
def RSt (T : Nat → Nat) (len r p : Nat) (R : List Cls) (σx σm : MS) : Prop := ∃ v N, LSy 20 T len p σx σm ∧ sI σx 17 6 = nI v ∧ Cod σx (codesOf R) ∧ EM σm r (entsOf R) v ∧ sI σm 0 35 = 0 ∧ v ≤ 60 ∧ 3 * N ≤ p ∧ (entsOf R).length ≤ 2 * v + N ∧ Ofs σm r R ∧ WR R
/-- both have read a rule -/
def ROk (r : Nat) (R : List Cls) (σx σm : MS) : Prop := R.length ≤ 12 ∧ (entsOf R).length ≤ 260 ∧ Cod σx (codesOf R) ∧ RMc σm r 0 (entsOf R) ∧ Ofs σm r R ∧ WR R ∧ sI σm 0 31 = 0
theorem j_rule (hl : len ≤ 400) (hT : ∀ i, i < len → T i < 256) {r : Nat} (hr : r < 6) : ∀ (j k n n' p : Nat) (R : List Cls) (σx σm : MS), k + j = 12 → R.length = k → j + 1 < n → j + 1 < n' → RSt T len r p R σx σm →
    ∃ f k' σx' σm' m, b_X7_read_19 n (nI k) σx = some (nI f, σx') ∧ b_X12_rule_27 n' (nI k) 1 σm = b_X12_rule_27 (m + 1) (nI k') 0 σm' ∧ FC σx σx' ∧ FL r σm σm' ∧ f ≤ 4000 ∧ ((f = 0 ∧ ∃ R', R'.length = k' ∧ ROk r R' σx' σm') ∨ (f ≠ 0 ∧ sI σm' 0 31 = nI f))
  | j, k, n + 2, n' + 2, p, R, σx, σm, hj, hR, hn, hn', h => by
    obtain ⟨v, N, hL, hv6, hC, hE, h35, hv, hN, hb, hO, hWR⟩ := h
    have h6 := hL.2.2.2.2.2.1
    have hcl := codesOf_len R
    obtain ⟨σx1, σm1, a1, a2, a3, a4, a5⟩ := j_clause (k := k) hl hT hr (by omega) hL hv6 hC hE h35 hv hN hb (by omega)
    have hX : b_X7_read_19 (n + 2) (nI k) σx = (if (sI σx1 20 6) = 0 then (if (sI σx1 20 2) = 0 then some ((0 : Int32), σx1) else (b_X7_read_66 (b_X7_read_19 (n + 1)) (nI k) σx1)) else (b_X7_read_66 (b_X7_read_19 (n + 1)) (nI k) σx1)) := by
      show (if (12 : Int32) < nI k then _ else (if (sI σx 20 6) = 0 then (f_X7_readTake (nI k) σx).bind (fun r10 => (f_X7_readClause r10).bind _) else _)) = _
      rw [if_neg (by rw [show (12 : Int32) = nI 12 from rfl, nI_ltI (by decide) (by omega)]; omega), if_pos h6]
      cases ht : f_X7_readTake (nI k) σx with
      | none => rw [ht] at a1; cases a1
      | some s =>
        rw [ht, bnd] at a1
        rw [bnd, a1, bnd]
    have hM : b_X12_rule_27 (n' + 2) (nI k) 1 σm = (f_X12_goesOn σm1).bind (fun r14 => b_X12_rule_27 (n' + 1) (nI (k + 1)) r14.1 r14.2) := by
      show (if (1 : Int32) = 0 then _ else (f_X12_ruleClause (nI k) σm).bind _) = _
      rw [if_neg (show ¬ (1 : Int32) = 0 by decide), a2, bnd, nl_add]
    have hXf : ∀ f : Nat, f ≠ 0 → f ≤ 4000 → sI σx1 20 6 = nI f → b_X7_read_19 (n + 2) (nI k) σx = some (nI f, σx1) := fun f f1 f2 f3 => by
      have hne : ¬ sI σx1 20 6 = 0 := by rw [f3, n_zero (by omega)]; exact f1
      rw [hX, if_neg hne]
      show (if (12 : Int32) < nI k + 1 then (b_X7_read_72 σx1) else (if (sI σx1 20 6) = 0 then _ else (b_X7_read_72 σx1))) = _
      rw [if_neg hne, ite_self]
      unfold b_X7_read_72
      rw [f3]
    rw [hM]
    rcases a5 with ⟨q, v', N', A, B, c1, c2, c3, c4, c5, c6, c7, c8, c9, c10, c11, c12, c13, c14, c15, c16, c17, c18, c19, c20, c21, c22⟩ | ⟨f, f1, f2, f3, f4⟩ | ⟨q, y1, y2, y3, y4, y5, y6, y7⟩
    · obtain ⟨σm2, d1, d2, d3⟩ := m_goes hl hT c2 c3 c4 c5 c6
      have eA : entsOf (R ++ [(A, B)]) = entsOf R ++ (A ++ B) := by rw [entsOf_app]; simp [entsOf]
      have eC : codesOf (R ++ [(A, B)]) = codesOf R ++ cod1 (A, B) := by rw [codesOf_app]; simp [codesOf]
      have hlA : (entsOf R ++ (A ++ B)).length = (entsOf R).length + (A ++ B).length := by simp
      have hW2 : WR (R ++ [(A, B)]) := fun c hc => by
        rcases List.mem_append.mp hc with h | h
        · exact hWR c h
        · have : c = (A, B) := by simpa using h
          subst this; exact ⟨c17, c18⟩
      have hO2 : Ofs σm2 r (R ++ [(A, B)]) := by
        have e2 : ∀ b, b ≠ 0 → sI σm2 b = sI σm1 b := d1.2.1
        refine hO.snoc (fun i hi => ?_) ?_ ?_ ?_
        · obtain ⟨g1, g2, g3⟩ := a4.2.2.2.2 i (by rw [← hR]; exact hi)
          exact ⟨by rw [e2 32 (by decide)]; exact g1, by rw [e2 33 (by decide)]; exact g2, by rw [e2 34 (by decide)]; exact g3⟩
        · rw [e2 32 (by decide), hR]; exact c20
        · rw [e2 33 (by decide), hR]; exact c21
        · rw [e2 34 (by decide), hR]; exact c22
      have hE2 : EM σm2 r (entsOf (R ++ [(A, B)])) v' := by rw [eA]; exact c15.fr d1
      have hC2 : Cod σx1 (codesOf (R ++ [(A, B)])) := by rw [eC]; exact c14
      have hl2 : (R ++ [(A, B)]).length = k + 1 := by simp [hR]
      rcases d3 with ⟨g1, g2, g3⟩ | ⟨g1, g2, g3, g4⟩ | ⟨g1, g2, _⟩
      · -- the end
        have t2 : sI σx1 20 2 = 0 := by
          rcases c8 with ⟨_, g, _⟩ | ⟨g, _⟩ | ⟨g, _⟩ | ⟨g, _⟩
          · exact g
          · omega
          · omega
          · omega
        refine ⟨0, k + 1, σx1, σm2, n', by rw [hX, if_pos c7, if_pos t2]; rfl, by rw [g2, bnd], a3, a4.fl.trans (d1.fl r), by omega, Or.inl ⟨rfl, R ++ [(A, B)], hl2, by omega, by rw [eA]; omega, hC2, hE2.2.2.1, hO2, hW2, g3⟩⟩
      · -- the next clause
        have t2 : ¬ sI σx1 20 2 = 0 := by
          rcases c8 with ⟨g, _, _⟩ | ⟨_, _, g, _⟩ | ⟨_, _, g, _⟩ | ⟨_, _, _, g, _⟩
          · omega
          · rw [g]; decide
          · rw [g]; decide
          · rw [g]; decide
        have hS : RSt T len r (q + 1) (R ++ [(A, B)]) σx1 σm2 := ⟨v', N', ⟨c1, c2.fr d1, by omega, tok_s1 g1 g2 (by decide) c8, d2, c7, g4⟩, c13, hC2, hE2, by rw [d1.2.2 35 (by decide) (by decide)]; exact c16, c11, by omega, by rw [eA]; omega, hO2, hW2⟩
        obtain ⟨f, k', σx', σm', m, x1, x2, x3, x4, x5, x6⟩ := j_rule hl hT hr (j - 1) (k + 1) (n + 1) (n' + 1) (q + 1) (R ++ [(A, B)]) σx1 σm2 (by omega) hl2 (by omega) (by omega) hS
        refine ⟨f, k', σx', σm', m, ?_, by rw [g3, bnd]; exact x2, a3.trans x3, a4.fl.trans ((d1.fl r).trans x4), x5, x6⟩
        rw [hX, if_pos c7, if_neg t2]
        unfold b_X7_read_66
        rw [nl_add]; exact x1
      · exact absurd c9 (by omega)
    · obtain ⟨σm2, d1, d2, d3⟩ := moreF hl hT f1 f2 f4
      exact ⟨f, k + 1, σx1, σm2, n', hXf f f1 f2 f3, by rw [d1, bnd], a3, a4.fl.trans (d2.fl r), f2, Or.inr ⟨f1, d3⟩⟩
    · obtain ⟨σm2, d1, d2, d3⟩ := m_goes hl hT y5 (by omega) y6 y3 y7
      rcases d3 with ⟨g1, _⟩ | ⟨_, g1, _⟩ | ⟨g1, g2, g3, g4⟩
      · omega
      · exact absurd g1 y2
      · exact ⟨1 + 8 * q + 0, k + 1, σx1, σm2, n', hXf _ (by omega) (by omega) y4, by rw [g3, bnd], a3, a4.fl.trans (d1.fl r), by omega, Or.inr ⟨by omega, g4⟩⟩
  | _, _, 0, _, _, _, _, _, _, _, hn, _, _ => absurd hn (Nat.not_lt_zero _)
  | _, _, 1, _, _, _, _, _, _, _, hn, _, _ => absurd hn (by omega)
  | _, _, _ + 2, 0, _, _, _, _, _, _, _, hn, _ => absurd hn (Nat.not_lt_zero _)
  | _, _, _ + 2, 1, _, _, _, _, _, _, _, hn, _ => absurd hn (by omega)
end RU
