/-! ===== pure: a duchy is told ===== -/
section
section MO
variable {len : Nat} {T : Nat → Nat}
theorem more2 (hl : len ≤ 400) (hT : ∀ i, i < len → T i < 256) {p : Nat} {σx σm : MS} (Ls : LSy 16 T len p σx σm) :
    ∃ b σx' σm', b ≤ 1 ∧ f_X2_hasMore σx = some (nI b, σx') ∧ f_X12_goesOn σm = some (nI b, σm') ∧ FA 16 σx σx' ∧ FR σm σm' ∧ ((b = 1 ∧ ∃ p', LSy 16 T len p' σx' σm') ∨ (b = 0 ∧ ∃ f, f ≤ 4000 ∧ sI σx' 16 6 = nI f ∧ sI σm' 0 31 = nI f)) := by
  obtain ⟨tx, tm, hp, e1, e30, e6, e31⟩ := Ls
  obtain ⟨σ1, a1, a2, a3, a4, a5⟩ := x_adv (a := 16) (by decide) (by decide) hl hT tx hp e1
  obtain ⟨σ2, b1, b2, b3, b4⟩ := m_blanks hl hT (by omega) tm e30
  obtain ⟨hq1, hq2⟩ := skB_le T hp
  have z6 : sI σ1 16 6 = 0 := by rw [a3]; exact e6
  have z31 : sI σ2 0 31 = 0 := by rw [b3]; exact e31
  have tm2 := tm.fr b2
  have tx1 := tx.fa a2 (by decide) (by decide)
  generalize hq : skB T len p = q at a4 a5 b4 hq1 hq2
  have eM : f_X12_goesOn σm = if len ≤ q then b_X12_goesOn_40 σ2 else (if T q = 59 then b_X12_goesOn_40 σ2 else (f_X12_fails (0 : Int32) (nI q) σ2).bind (fun r18 => b_X12_goesOn_40 r18)) := by
    unfold f_X12_goesOn b_X12_goesOn_0
    rw [b1, bnd, if_pos z31, tm2.1, b4, q_le (by omega) (by omega)]
    by_cases c : len ≤ q
    · rw [if_pos c, if_pos c]
    · have := hT q (by omega)
      rw [if_neg c, if_neg c, m_sign tm2 hl hT (by omega) b4, bnd, cc_in (by omega), hI_s, q_nl_eq (by decide) (by omega)]
  have h40 : ∀ σ, TM len T σ → sI σ 0 30 = nI q → sI σ 0 31 = 0 → b_X12_goesOn_40 σ = if len ≤ q then some (nI 0, wI σ 0 30 (nI (q + 1))) else some (nI 1, wI σ 0 30 (nI (q + 1))) := fun σ t s30 s31 => by
    unfold b_X12_goesOn_40 b_X12_goesOn_62 b_X12_goesOn_63
    rw [if_pos s31, t.1, s30, q_le (by omega) (by omega), chk_t (Or.inl rfl), chk_t (Or.inr rfl), nI_1]; rfl
  -- a fault at q
  have flt : ¬ (q = len ∨ T q = 59) → q < len → f_X2_hasMore σx = some (0, wI σ1 16 6 (nI (1 + 8 * q + 0))) → ∃ b σx' σm', b ≤ 1 ∧ f_X2_hasMore σx = some (nI b, σx') ∧ f_X12_goesOn σm = some (nI b, σm') ∧ FA 16 σx σx' ∧ FR σm σm' ∧ ((b = 1 ∧ ∃ p', LSy 16 T len p' σx' σm') ∨ (b = 0 ∧ ∃ f, f ≤ 4000 ∧ sI σx' 16 6 = nI f ∧ sI σm' 0 31 = nI f)) := fun hno hlt hx => by
    have e : f_X12_goesOn σm = some (nI 0, wI (wI σ2 0 31 (nI (1 + 8 * q + 0))) 0 30 (nI (q + 1))) := by
      rw [eM, if_neg (by omega), if_neg (fun z => hno (Or.inr z)), m_fails (x := (0 : Int32)) (c := 0) (q := q) rfl rfl z31, bnd]
      unfold b_X12_goesOn_40 b_X12_goesOn_62 b_X12_goesOn_63
      rw [sI_wIs, q_zero (by omega), if_neg (by omega), chk_t (Or.inl rfl), sI_wIk _ _ _ _ (by decide), b4, nI_1]; rfl
    exact ⟨0, _, _, by omega, hx, e, a2.trans (FA.w 16 _ _ _), b2.trans ((FR.w31 _ _).trans (FR.w30 _ _)), Or.inr ⟨rfl, 1 + 8 * q + 0, by omega, sI_wIs _ _ _ _, by rw [sI_wIk _ _ _ _ (by decide), sI_wIs]⟩⟩
  have xF : ∀ r, f_X4_endsClause 16 σ1 = some 0 → f_X4_isSign 16 (59 : Int32) (wI σ1 16 6 (nI (1 + 8 * q + 0))) = some r → r = 0 → f_X2_hasMore σx = some (0, wI σ1 16 6 (nI (1 + 8 * q + 0))) := fun r h1 h2 h3 => by
    unfold f_X2_hasMore b_X2_hasMore_0 b_X2_hasMore_25
    rw [a1, bnd, h1, bnd, if_pos rfl, x_fail (x := (0 : Int32)) (c := 0) (q := q) rfl z6 a4, bnd, h2, bnd, h3, chk_t (Or.inl rfl)]
  have noS : ∀ σ : MS, ¬ sI σ 16 2 = (3 : Int32) → f_X4_isSign 16 (59 : Int32) σ = some 0 := fun σ h => by
    unfold f_X4_isSign b_X4_isSign_0 b_X4_isSign_20 b_X4_isSign_21
    rw [if_neg h, chk_t (Or.inl rfl)]
  have noE : ¬ sI σ1 16 2 = (3 : Int32) → ¬ sI σ1 16 2 = (0 : Int32) → f_X4_endsClause 16 σ1 = some 0 := fun h1 h2 => by
    unfold f_X4_endsClause b_X4_endsClause_0 b_X4_endsClause_21
    rw [if_neg h2, noS σ1 h1, bnd, if_pos rfl, chk_t (Or.inl rfl)]
  rcases a5 with ⟨t1, t2, t3⟩ | ⟨t1, t2, t3, t4, t5⟩ | ⟨t1, t2, t3, t4⟩ | ⟨t1, t2, t3, t4, t5⟩
  · -- the end
    refine ⟨0, σ1, wI σ2 0 30 (nI (q + 1)), by omega, ?_, by rw [eM, if_pos (by omega), h40 σ2 tm2 b4 z31, if_pos (by omega)], a2, b2.trans (FR.w30 _ _), Or.inr ⟨rfl, 0, by omega, z6, by rw [sI_wIk _ _ _ _ (by decide)]; exact z31⟩⟩
    have he : f_X4_endsClause 16 σ1 = some 1 := by
      unfold f_X4_endsClause b_X4_endsClause_0 b_X4_endsClause_16 b_X4_endsClause_21
      rw [if_pos t2, chk_t (Or.inr rfl)]
    unfold f_X2_hasMore b_X2_hasMore_0 b_X2_hasMore_25
    rw [a1, bnd, he, bnd, if_neg one_ne, noS σ1 (by rw [t2]; decide), bnd, chk_t (Or.inl rfl)]; rfl
  · refine flt (by omega) t1 (xF 0 (noE (by rw [t3]; decide) (by rw [t3]; decide)) (noS _ (by rw [sI_wIk _ _ _ _ (by decide), t3]; decide)) rfl)
  · refine flt (by omega) t1 (xF 0 (noE (by rw [t3]; decide) (by rw [t3]; decide)) (noS _ (by rw [sI_wIk _ _ _ _ (by decide), t3]; decide)) rfl)
  · have htq := hT q t1
    obtain ⟨s, hs1, hs2, hs3⟩ : ∃ s, s < 600 ∧ sI σ1 16 5 = nI s ∧ (s = 59 ↔ T q = 59) := by
      rcases t5 with ⟨k1, k2, k3, k4, k5⟩ | ⟨k1, k2, k3⟩
      · exact ⟨T q + 256, by omega, k4, by omega⟩
      · exact ⟨T q, by omega, k2, by omega⟩
    have hsg : ∀ σ : MS, sI σ 16 2 = 3 → sI σ 16 5 = nI s → f_X4_isSign 16 (59 : Int32) σ = some (nI (if T q = 59 then 1 else 0)) := fun σ h1 h2 => by
      unfold f_X4_isSign b_X4_isSign_0 b_X4_isSign_20 b_X4_isSign_21
      rw [if_pos h1, h2, q_nl_eq (by decide) (by omega)]
      by_cases c : T q = 59
      · rw [if_pos (hs3.mpr c), if_pos c, chk_t (Or.inr rfl)]; rfl
      · rw [if_neg (fun z => c (hs3.mp z)), if_neg c, chk_t (Or.inl rfl)]; rfl
    have hec : f_X4_endsClause 16 σ1 = some (nI (if T q = 59 then 1 else 0)) := by
      unfold f_X4_endsClause b_X4_endsClause_0 b_X4_endsClause_16 b_X4_endsClause_21
      rw [if_neg (by rw [t4]; decide), hsg σ1 t4 hs2, bnd]
      by_cases c : T q = 59
      · rw [if_pos c, if_neg (by decide), chk_t (Or.inr rfl)]; rfl
      · rw [if_neg c, if_pos (by decide), chk_t (Or.inl rfl)]; rfl
    by_cases c : T q = 59
    · rw [if_pos c] at hec
      have hsg1 := hsg σ1 t4 hs2
      rw [if_pos c] at hsg1
      have e1' : sI σ1 16 1 = nI (q + 1) := by
        rcases t5 with ⟨k1, k2, k3, k4, k5⟩ | ⟨k1, k2, k3⟩
        · omega
        · exact k3
      refine ⟨1, σ1, wI σ2 0 30 (nI (q + 1)), by omega, ?_, by rw [eM, if_neg (by omega), if_pos c, h40 σ2 tm2 b4 z31, if_neg (by omega)], a2, b2.trans (FR.w30 _ _), Or.inl ⟨rfl, q + 1, tx1, tm2.fr (FR.w30 _ _), by omega, e1', sI_wIs _ _ _ _, z6, by rw [sI_wIk _ _ _ _ (by decide)]; exact z31⟩⟩
      unfold f_X2_hasMore b_X2_hasMore_0 b_X2_hasMore_25
      rw [a1, bnd, hec, bnd, if_neg (show ¬ nI 1 = 0 by decide), hsg1, bnd, chk_t (show nI 1 = 0 ∨ nI 1 = 1 from Or.inr rfl)]
    · rw [if_neg c] at hec
      refine flt (by omega) t1 (xF _ hec (hsg _ (by rw [sI_wIk _ _ _ _ (by decide)]; exact t4) (by rw [sI_wIk _ _ _ _ (by decide)]; exact hs2)) (by rw [if_neg c]; rfl))
theorem moreF (hl : len ≤ 400) (hT : ∀ i, i < len → T i < 256) {f : Nat} {σm : MS} (hf : f ≠ 0) (hf2 : f ≤ 4000) (h : FltM T len f σm) : ∃ σm', f_X12_goesOn σm = some (0, σm') ∧ FR σm σm' ∧ sI σm' 0 31 = nI f := by
  obtain ⟨σ1, a1, a2, a3⟩ := h.blanks hl hT
  refine ⟨_, ?_, a2.trans (FR.w30 _ (sI σ1 0 30 + 1)), by rw [sI_wIk _ _ _ _ (by decide)]; exact a3.2.2⟩
  unfold f_X12_goesOn b_X12_goesOn_0 b_X12_goesOn_40 b_X12_goesOn_62 b_X12_goesOn_63
  rw [a1, bnd, a3.2.2, q_zero (by omega), if_neg hf, q_zero (by omega), if_neg hf, chk_t (Or.inl rfl)]
/-- all clauses -/
theorem d_loop (hl : len ≤ 400) (hT : ∀ i, i < len → T i < 256) : ∀ (j n fx fm p told K P N : Nat) (L S : Row2) (σx σm : MS), n + j = 40 → j + 2 ≤ fx → j + 2 ≤ fm → LSy 16 T len p σx σm → Dft told K P N L S σx σm → WD told K P N L S → told = (if n = 0 then 0 else 1) →
    ∃ f σx' σm', b_X2_read_18 fx 1 (nI n) σx = some (nI f, σx') ∧ b_X12_readsAll_28 fm (nI n) 1 σm = some (wI σm' 0 29 0) ∧ FrX σx σx' ∧ FrM σm σm' ∧ f ≤ 4000 ∧ sI σm' 0 31 = nI f ∧ (f = 0 → ∃ K P N L S, Dft 1 K P N L S σx' σm' ∧ WD 1 K P N L S) := by
  intro j
  induction j with
  | zero =>
    intro n fx fm p told K P N L S σx σm hn hfx hfm Ls D hW ht
    obtain ⟨σx1, σm1, a1, a2, a3, a4, a5⟩ := clause hl hT Ls D hW ht (by omega)
    rcases a5 with ⟨c, _⟩ | ⟨f, f1, f2, f3, f4⟩
    · omega
    · obtain ⟨σm2, b1, b2, b3⟩ := moreF hl hT f1 f2 f4
      obtain ⟨fx, rfl⟩ : ∃ n', fx = n' + 1 + 1 := ⟨fx - 2, by omega⟩
      obtain ⟨fm, rfl⟩ : ∃ n', fm = n' + 1 + 1 := ⟨fm - 2, by omega⟩
      refine ⟨f, σx1, σm2, ?_, ?_, a3, a4.trans b2.fm, f2, b3, fun z => absurd z f1⟩
      · have e := a1
        unfold clsX at e
        conv => lhs; unfold b_X2_read_18
        rw [if_neg one_ne, q_ln_lt (by decide) (by omega), if_neg (by omega)]
        cases ho : f_X2_openClause (nI n) σx with
        | none => rw [ho] at e; cases e
        | some r26 =>
          rw [ho, bnd] at e
          rw [bnd]
          have e114 : b_X2_read_114 (b_X2_read_18 (fx + 1)) (nI n) σx1 = some (nI f, σx1) := by
            unfold b_X2_read_114 b_X2_read_135 b_X2_read_136
            rw [f3, q_zero (by omega), if_neg f1]
            unfold b_X2_read_18 b_X2_read_143
            rw [if_pos rfl, f3]
          split at e
          · rename_i z; rw [if_pos z, e, bnd, e114]
          · rename_i z0; rw [if_neg z0]
            split at e
            · rename_i z; rw [if_pos z, e, bnd, e114]
            · rename_i z1; rw [if_neg z1]
              split at e
              · rename_i z; rw [if_pos z, e, bnd, e114]
              · rename_i z2; rw [if_neg z2]
                split at e
                · rename_i z; rw [if_pos z, e, bnd, e114]
                · rename_i z3; rw [if_neg z3]
                  split at e
                  · rename_i z; rw [if_pos z, e, bnd, e114]
                  · rename_i z4; rw [if_neg z4]
                    split at e
                    · rename_i z; rw [if_pos z, e, bnd, e114]
                    · rename_i z5; rw [if_neg z5]
                      injection e with e
                      rw [e, e114]
      · conv => lhs; unfold b_X12_readsAll_28
        rw [if_neg one_ne, a2, bnd, b1, bnd]
        unfold b_X12_readsAll_28
        rw [if_pos rfl]
  | succ j ih =>
    intro n fx fm p told K P N L S σx σm hn hfx hfm Ls D hW ht
    obtain ⟨σx1, σm1, a1, a2, a3, a4, a5⟩ := clause hl hT Ls D hW ht (by omega)
    obtain ⟨fx, rfl⟩ : ∃ n', fx = n' + 1 := ⟨fx - 1, by omega⟩
    obtain ⟨fm, rfl⟩ : ∃ n', fm = n' + 1 := ⟨fm - 1, by omega⟩
    have ex : ∀ R, b_X2_read_114 (b_X2_read_18 fx) (nI n) σx1 = R → b_X2_read_18 (fx + 1) 1 (nI n) σx = R := fun R e114 => by
      have e := a1
      unfold clsX at e
      conv => lhs; unfold b_X2_read_18
      rw [if_neg one_ne, q_ln_lt (by decide) (by omega), if_neg (by omega)]
      cases ho : f_X2_openClause (nI n) σx with
      | none => rw [ho] at e; cases e
      | some r26 =>
        rw [ho, bnd] at e
        rw [bnd]
        split at e
        · rename_i z; rw [if_pos z, e, bnd, e114]
        · rename_i z0; rw [if_neg z0]
          split at e
          · rename_i z; rw [if_pos z, e, bnd, e114]
          · rename_i z1; rw [if_neg z1]
            split at e
            · rename_i z; rw [if_pos z, e, bnd, e114]
            · rename_i z2; rw [if_neg z2]
              split at e
              · rename_i z; rw [if_pos z, e, bnd, e114]
              · rename_i z3; rw [if_neg z3]
                split at e
                · rename_i z; rw [if_pos z, e, bnd, e114]
                · rename_i z4; rw [if_neg z4]
                  split at e
                  · rename_i z; rw [if_pos z, e, bnd, e114]
                  · rename_i z5; rw [if_neg z5]
                    injection e with e
                    rw [e, e114]
    have end18 : ∀ (f : Nat) (σ : MS), sI σ 16 6 = nI f → b_X2_read_18 fx 0 (nI (n + 1)) σ = some (nI f, σ) := fun f σ h => by
      obtain ⟨fx, rfl⟩ : ∃ n', fx = n' + 1 := ⟨fx - 1, by omega⟩
      unfold b_X2_read_18 b_X2_read_143
      rw [if_pos rfl, h]
    have end28 : ∀ (σ : MS), b_X12_readsAll_28 fm (nI (n + 1)) 0 σ = some (wI σ 0 29 0) := fun σ => by
      obtain ⟨fm, rfl⟩ : ∃ n', fm = n' + 1 := ⟨fm - 1, by omega⟩
      unfold b_X12_readsAll_28
      rw [if_pos rfl]
    rcases a5 with ⟨_, p', K', P', N', L', S', g1, g2, g3⟩ | ⟨f, f1, f2, f3, f4⟩
    · obtain ⟨b, σx2, σm2, c1, c2, c3, c4, c5, c6⟩ := more2 hl hT g1
      have h6 := g1.2.2.2.2.2.1
      have D2 : Dft 1 K' P' N' L' S' σx2 σm2 := g2.fr (fun b q1 q2 => c4.2 b (by omega)) (fun b q1 q2 => c5.2.1 b (by omega))
      rcases c6 with ⟨cb, p2, L2⟩ | ⟨cb, f, f1, f2, f3⟩
      · subst cb
        obtain ⟨f, σx3, σm3, d1, d2, d3, d4, d5⟩ := ih (n + 1) fx fm p2 1 K' P' N' L' S' σx2 σm2 (by omega) (by omega) (by omega) L2 D2 g3 (by rw [if_neg (by omega)])
        refine ⟨f, σx3, σm3, ?_, ?_, a3.trans (c4.fx.trans d3), a4.trans (c5.fm.trans d4), d5⟩
        · apply ex
          unfold b_X2_read_114 b_X2_read_136
          rw [if_pos h6, c2, bnd, if_neg (show ¬ nI 1 = 0 by decide), nI_1]
          exact d1
        · conv => lhs; unfold b_X12_readsAll_28
          rw [if_neg one_ne, a2, bnd, c3, bnd, nI_1]
          exact d2
      · subst cb
        refine ⟨f, σx2, σm2, ?_, ?_, a3.trans c4.fx, a4.trans c5.fm, f1, f3, fun _ => ⟨K', P', N', L', S', D2, g3⟩⟩
        · apply ex
          unfold b_X2_read_114 b_X2_read_135 b_X2_read_136
          rw [if_pos h6, c2, bnd, if_pos (show nI 0 = 0 from rfl), nI_1]
          exact end18 f σx2 f2
        · conv => lhs; unfold b_X12_readsAll_28
          rw [if_neg one_ne, a2, bnd, c3, bnd, nI_1]
          exact end28 σm2
    · obtain ⟨σm2, b1, b2, b3⟩ := moreF hl hT f1 f2 f4
      refine ⟨f, σx1, σm2, ?_, ?_, a3, a4.trans b2.fm, f2, b3, fun z => absurd z f1⟩
      · apply ex
        unfold b_X2_read_114 b_X2_read_135 b_X2_read_136
        rw [f3, q_zero (by omega), if_neg f1, nI_1]
        exact end18 f σx1 f3
      · conv => lhs; unfold b_X12_readsAll_28
        rw [if_neg one_ne, a2, bnd, b1, bnd, nI_1]
        exact end28 σm2
end MO
end
