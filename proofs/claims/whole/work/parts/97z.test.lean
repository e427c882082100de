/-! ===== pure: a whole test, and what comes behind a clause ===== -/
section TT
variable {len : Nat} {T : Nat → Nat}
theorem j_test (hl : len ≤ 400) (hT : ∀ i, i < len → T i < 256) {r : Nat} {c0 e0 : List Ent} (hr : r < 6) (hc0 : c0.length ≤ e0.length + 12) : ∀ (j n p y : Nat) (z : Int32) (σx σm : MS), len - p < j → j < n → ((z = 1 ∧ TWant T len r p y c0 e0 σx σm) ∨ (z = 0 ∧ THas T len r p y c0 e0 σx σm)) →
    ∃ y' σx' σm', b_X12_test_9 n z 1 σm = some σm' ∧ Rn y σx y' σx' ∧ FC σx σx' ∧ FQ r σm σm' ∧ (TDone T len r c0 e0 σx' σm' ∨ Flt2 T len σx' σm' ∨ Fl0 T len σx' σm')
  | 0, _, _, _, _, _, _, hj, _, _ => absurd hj (Nat.not_lt_zero _)
  | j + 1, 0, _, _, _, _, _, _, hn, _ => absurd hn (Nat.not_lt_zero _)
  | j + 1, 1, _, _, _, _, _, _, hn, _ => absurd hn (by omega)
  | j + 1, n + 2, p, y, z, σx, σm, hj, hn, h => by
    have hpl : ∀ {p' y' : Nat} {σx' σm' : MS}, (TWant T len r p' y' c0 e0 σx' σm' ∨ THas T len r p' y' c0 e0 σx' σm') → p' ≤ len := fun h => by
      rcases h with ⟨_, _, _, _, _, _, g, _⟩ | ⟨_, _, _, _, _, _, _, g, _⟩
      · exact g.2.2.1
      · exact g.2.2.1
    rcases h with ⟨hz, h⟩ | ⟨hz, h⟩
    · subst hz
      obtain ⟨z, y1, σx1, σm1, a1, a2, a3, a4, a5⟩ := st_A hl hT hr hc0 h
      rw [a1]
      rcases a5 with ⟨c1, p', c2, c3⟩ | ⟨c1, p', c2, c3⟩ | ⟨f, f1, f2, f3, f4⟩
      · have := hpl (Or.inl c3)
        obtain ⟨y', σx', σm', b1, b2, b3, b4, b5⟩ := j_test hl hT hr hc0 j (n + 1) p' y1 z σx1 σm1 (by omega) (by omega) (Or.inl ⟨c1, c3⟩)
        exact ⟨y', σx', σm', b1, a2.trans b2, a3.trans b3, a4.trans b4, b5⟩
      · have := hpl (Or.inr c3)
        obtain ⟨y', σx', σm', b1, b2, b3, b4, b5⟩ := j_test hl hT hr hc0 j (n + 1) p' y1 z σx1 σm1 (by omega) (by omega) (Or.inr ⟨c1, c3⟩)
        exact ⟨y', σx', σm', b1, a2.trans b2, a3.trans b3, a4.trans b4, b5⟩
      · exact ⟨y1, σx1, σm1, m_testF f1 f2 f4.2.2, a2, a3, a4, Or.inr (Or.inl ⟨f, f1, f2, f3, f4⟩)⟩
    · subst hz
      obtain ⟨z1, z2, y1, σx1, σm1, a1, a2, a3, a4, a5⟩ := st_B hl hT hr hc0 h
      rw [a1]
      rcases a5 with ⟨c1, c0', p', c2, c3⟩ | ⟨c1, c0', p', c2, c3⟩ | ⟨f, f1, f2, f3, f4⟩ | ⟨c0', c1⟩
      · have := hpl (Or.inl c3)
        subst c0'
        obtain ⟨y', σx', σm', b1, b2, b3, b4, b5⟩ := j_test hl hT hr hc0 j (n + 1) p' y1 z1 σx1 σm1 (by omega) (by omega) (Or.inl ⟨c1, c3⟩)
        exact ⟨y', σx', σm', b1, a2.trans b2, a3.trans b3, a4.trans b4, b5⟩
      · have := hpl (Or.inr c3)
        subst c0'
        obtain ⟨y', σx', σm', b1, b2, b3, b4, b5⟩ := j_test hl hT hr hc0 j (n + 1) p' y1 z1 σx1 σm1 (by omega) (by omega) (Or.inr ⟨c1, c3⟩)
        exact ⟨y', σx', σm', b1, a2.trans b2, a3.trans b3, a4.trans b4, b5⟩
      · exact ⟨y1, σx1, σm1, m_testF f1 f2 f4.2.2, a2, a3, a4, Or.inr (Or.inl ⟨f, f1, f2, f3, f4⟩)⟩
      · subst c0'
        refine ⟨y1, σx1, σm1, rfl, a2, a3, a4, ?_⟩
        rcases c1 with h | h
        · exact Or.inl h
        · exact Or.inr (Or.inr h)
/-- the reference behind a clause -/
theorem m_goes (hl : len ≤ 400) (hT : ∀ i, i < len → T i < 256) {q : Nat} {σ : MS} (tm : TM len T σ) (hq : q ≤ len) (e30 : sI σ 0 30 = nI q) (hsk : skB T len q = q) (e31 : sI σ 0 31 = 0) :
    ∃ σ', FR σ σ' ∧ sI σ' 0 30 = nI (q + 1) ∧ ((q = len ∧ f_X12_goesOn σ = some (0, σ') ∧ sI σ' 0 31 = 0) ∨ (q < len ∧ T q = 59 ∧ f_X12_goesOn σ = some (1, σ') ∧ sI σ' 0 31 = 0) ∨ (q < len ∧ T q ≠ 59 ∧ f_X12_goesOn σ = some (0, σ') ∧ sI σ' 0 31 = nI (1 + 8 * q + 0))) := by
  obtain ⟨σ2, b1, b2, b3, b4⟩ := m_blanks hl hT (p := q) (by omega) tm e30
  rw [hsk] at b4
  have z31 : sI σ2 0 31 = 0 := by rw [b3]; exact e31
  have tm2 := tm.fr b2
  have eM : f_X12_goesOn σ = if len ≤ q then b_X12_goesOn_40 σ2 else (if T q = 59 then b_X12_goesOn_40 σ2 else (f_X12_fails (0 : Int32) (nI q) σ2).bind (fun r18 => b_X12_goesOn_40 r18)) := by
    unfold f_X12_goesOn b_X12_goesOn_0
    rw [b1, bnd, if_pos z31, tm2.1, b4, q_le (by omega) (by omega)]
    by_cases c : len ≤ q
    · rw [if_pos c, if_pos c]
    · have := hT q (by omega)
      rw [if_neg c, if_neg c, m_sign tm2 hl hT (by omega) b4, bnd, cc_in (by omega), hI_s, q_nl_eq (by decide) (by omega)]
  have h40 : b_X12_goesOn_40 σ2 = if len ≤ q then some (0, wI σ2 0 30 (nI (q + 1))) else some (1, wI σ2 0 30 (nI (q + 1))) := by
    unfold b_X12_goesOn_40 b_X12_goesOn_62 b_X12_goesOn_63
    rw [if_pos z31, tm2.1, b4, q_le (by omega) (by omega), chk_t (Or.inl rfl), chk_t (Or.inr rfl), nl_add]
  have w30 : sI (wI σ2 0 30 (nI (q + 1))) 0 30 = nI (q + 1) := sI_wIs _ _ _ _
  have w31 : sI (wI σ2 0 30 (nI (q + 1))) 0 31 = 0 := by rw [sI_wIk _ _ _ _ (by decide)]; exact z31
  by_cases c : len ≤ q
  · exact ⟨_, b2.trans (FR.w30 _ _), w30, Or.inl ⟨by omega, by rw [eM, if_pos c, h40, if_pos c], w31⟩⟩
  · by_cases c2 : T q = 59
    · exact ⟨_, b2.trans (FR.w30 _ _), w30, Or.inr (Or.inl ⟨by omega, c2, by rw [eM, if_neg c, if_pos c2, h40, if_neg c], w31⟩)⟩
    · refine ⟨wI (wI σ2 0 31 (nI (1 + 8 * q + 0))) 0 30 (nI (q + 1)), b2.trans ((FR.w31 _ _).trans (FR.w30 _ _)), sI_wIs _ _ _ _, Or.inr (Or.inr ⟨by omega, c2, ?_, by rw [sI_wIk _ _ _ _ (by decide), sI_wIs]⟩)⟩
      rw [eM, if_neg c, if_neg c2, m_fails (x := (0 : Int32)) (c := 0) (q := q) rfl rfl z31, bnd]
      unfold b_X12_goesOn_40 b_X12_goesOn_62 b_X12_goesOn_63
      rw [sI_wIs, q_zero (by omega), if_neg (by omega), chk_t (Or.inl rfl), sI_wIk _ _ _ _ (by decide), b4, nl_add]
/-- the class behind a taken sum -/
theorem it_taken (hl : len ≤ 400) (hT : ∀ i, i < len → T i < 256) {p y v : Nat} {pd : List Nat} {cs : List Ent} {σ : MS} (tx : TX len T σ) (hp : p ≤ len) (e1 : sI σ 20 1 = nI p) (h6 : sI σ 20 6 = 0) (h3 : sI σ 17 3 = 2) (hy : y ≤ 400) (hs : ¬ (skB T len p < len ∧ sgS (T (skB T len p)))) (hc : CV σ 0 0 v pd cs) (hpd : ∀ o, o ∈ pd → o < 7 ∧ 5 ≤ lev o) (hlen : pd.length < 64) (hcl : cs.length + pd.length < 401) :
    ∃ σ', Rn y σ (y + 1) σ' ∧ FC σ σ' ∧
      (((skB T len p = len ∨ (skB T len p < len ∧ T (skB T len p) = 59)) ∧ sI σ' 17 3 = 4 ∧ TokX 20 T len (skB T len p) σ' ∧ sI σ' 20 6 = 0 ∧ CV σ' 0 0 v [] (cs ++ op0 pd ++ [(16, 0)])) ∨
       (¬ (skB T len p = len ∨ (skB T len p < len ∧ T (skB T len p) = 59)) ∧ mtN T len (skB T len p) 19 = 1 ∧ sI σ' 17 3 = 1 ∧ TokX 20 T len (skB T len p) σ' ∧ sI σ' 20 6 = 0 ∧ CV σ' 0 0 v [] (cs ++ op0 pd)) ∨
       (¬ (skB T len p = len ∨ (skB T len p < len ∧ T (skB T len p) = 59)) ∧ ¬ mtN T len (skB T len p) 19 = 1 ∧ sI σ' 20 6 = nI (1 + 8 * skB T len p + 0))) := by
  obtain ⟨σ1, a1, a2, a3, a4, a5⟩ := it_has (st := 2) hl hT tx hp e1 h6 h3 (by decide) hy
  obtain ⟨q1, q2⟩ := skB_le T hp
  have g3 : sI σ1 17 3 = 2 := by rw [a2.2 17 (by decide)]; exact h3
  have hc1 := hc.fa a2
  have txa := tx.fa a2 (by decide) (by decide)
  have hends : f_X7_endsFact σ1 = some 0 := by
    unfold f_X7_endsFact b_X7_endsFact_0
    rw [hc1.1, if_neg (by decide)]; rfl
  have step : ∀ n, b_X7_readClause_2 (n + 1) (nI y) σ = (f_X7_goOnFromValue σ1).bind (fun s => b_X7_readClause_2 n (nI (y + 1)) s) := fun n => by
    rw [a1, if_pos (show nI 2 = (2 : Int32) from rfl), hends, bnd, if_pos (show (0 : Int32) = 0 from rfl)]
    unfold b_X7_readClause_54
    rw [g3, if_neg (by decide)]
    unfold b_X7_readClause_79
    rw [g3, if_neg (by decide), if_neg (by decide), if_pos rfl]
    unfold b_X7_readClause_133
    rw [nl_add]
  obtain ⟨o, t1, t2⟩ := tok_sums hT hs a5
  obtain ⟨σ', b1, b2, b3⟩ := x_endSum hl hT txa q2 a5 a4 a3 hc1 hpd hlen hcl
  have hgo : f_X7_goOnFromValue σ1 = some σ' := by
    unfold f_X7_goOnFromValue b_X7_goOnFromValue_0
    rw [t1, bnd, t2, bnd, if_pos rfl, hc1.1, if_neg (show ¬ nI 0 = (1 : Int32) by decide), b1, bnd]; rfl
  refine ⟨σ', Rn.one (fun n => by rw [step, hgo, bnd]), a2.fc.trans b2, ?_⟩
  rcases b3 with ⟨c1, c2, c3, c4⟩ | ⟨c1, c2, c3, c4, c5⟩ | h
  · exact Or.inl ⟨c1, c2, by unfold TokX; rw [c3]; exact a5, by rw [c3]; exact a3, c4⟩
  · exact Or.inr (Or.inl ⟨c1, c2, c3, by unfold TokX; rw [c4]; exact a5, by rw [c4]; exact a3, c5⟩)
  · exact Or.inr (Or.inr h)
end TT
