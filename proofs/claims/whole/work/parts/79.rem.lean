/-! ===== pure: acts are kept, both sides ===== -/
section
theorem x_remember {t : Nat} {ow : Nat → Nat} {W : Wd} {Wi : Nat → Option Wd} {RR : List (List Cls)} {T : Nat → Nat} {len : Nat} {σ : MS} (hx : IX t ow W Wi RR T len σ) (hsh : ShX σ) (hR : RR.length ≤ 6) (hW : WW W) (ht : t < 600) : ∃ σ' ow', f_X10_remember σ = some σ' ∧ IX (t + 1) ow' (wRem W) Wi RR T len σ' := by
  have hXW := hx.2.2.2.1
  obtain ⟨⟨h1, h2⟩, h3, h4, ⟨h5, h6, h7, h8⟩, h9, np, g1, g2, g3, g4⟩ := hXW
  have hsn := hx.1
  have h7' := hW.1.2.2.2.2
  obtain ⟨σ1, b, k1, k2, k3, k4, k5, k6, k7, k8⟩ := x_keepPast (a0 := 22) (a2 := 35) (s := np) (σ := σ) (S := wS W) (by omega) g1 hsh.world hsh.now h4 (fun b hb => ⟨(g3 np g1 b hb).2.1, by have := (g3 np g1 b hb).1; omega⟩)
  have hb56 : 56 ≤ b := by
    rcases k5 with ⟨q, _⟩ | ⟨_, q, _⟩
    · exact (g3 np g1 b q).1
    · omega
  have hN1 : sN σ ≤ sN σ1 ∧ sN σ1 ≤ sN σ + 4 := by
    rcases k5 with ⟨_, q⟩ | ⟨_, _, q⟩ <;> omega
  have hb4 : b + 4 ≤ sN σ1 := k4.1
  have how : ∀ i, i < 4 → (if b + i < sN σ then ow (b + i) else 100 + np) = 100 + np := fun i hi => by
    rcases k5 with ⟨q, q2⟩ | ⟨_, q, _⟩
    · rw [if_pos (by omega)]
      have := (g3 np g1 b q).2.2 i hi
      omega
    · rw [if_neg (by omega)]
  have hne : ∀ p, p < sN σ → (p < 56 ∨ ow p ≠ 100 + np) → sI σ1 p = sI σ p := fun p hp hq => by
    refine k7 p hp ?_
    by_cases c : b ≤ p ∧ p ≤ b + 3
    · have := how (p - b) (by omega)
      rw [show b + (p - b) = p by omega, if_pos hp] at this
      omega
    · omega
  obtain ⟨σ', hσ'⟩ : ∃ σ', σ' = wI (wI σ1 22 3 (nI ((np + 1) % 20))) 22 4 (nI (min 20 (wc W 7 + 1))) := ⟨_, rfl⟩
  have r : ∀ p, p ≠ 22 → sI σ' p = sI σ1 p := fun p hp => by rw [hσ', sI_wIn _ _ _ _ hp, sI_wIn _ _ _ _ hp]
  have r22 : ∀ j, j ≠ 3 → j ≠ 4 → sI σ' 22 j = sI σ 22 j := fun j q1 q2 => by rw [hσ', sI_wIk _ _ _ _ q2, sI_wIk _ _ _ _ q1, hne 22 (by omega) (by omega)]
  have rf : ∀ p, p ≠ 22 → p < 56 → sI σ' p = sI σ p := fun p h1 h2 => by rw [r p h1, hne p (by omega) (by omega)]
  have sS' : ∀ p, p < sN σ → sS σ' p = sS σ p := fun p hp => by rw [hσ']; exact k6 p hp
  have sN' : sN σ' = sN σ1 := by rw [hσ']; rfl
  have sR' : sR σ' = sR σ1 := by rw [hσ']; rfl
  have sS1 : sS σ' = sS σ1 := by rw [hσ']; rfl
  refine ⟨σ', fun p => if p < sN σ then ow p else 100 + np, ?_, ?_⟩
  · have emin : f_J9_min_7cf53 (20 : Int32) (nI (wc W 7 + 1)) = some (nI (min 20 (wc W 7 + 1))) := x_min (a := 20) (by decide) (by omega)
    unfold f_X10_remember b_X10_remember_0
    rw [g2, k1, bnd, sI_wIk _ 22 3 _ (show (4 : Nat) ≠ 3 by decide), hne 22 (by omega) (by omega), h8, g2, nI_1, nI_1, nl_rem (by omega) (by decide) (by decide), emin, bnd, hσ']
  · refine hx.w hR ⟨⟨by rw [rf 23 (by decide) (by decide), wRem_c _ (by decide)]; exact h1, ?_⟩, h3.fr (fun p q1 q2 => rf p (by omega) (by omega)), h4.fr (fun p q1 q2 => rf p (by omega) (by omega)), ?_, ?_, (np + 1) % 20, Nat.mod_lt _ (by decide), ?_, ?_, ?_⟩ (by omega) (by omega) sS' (fun c q1 q2 q3 => ?_) (rf 1 (by decide) (by decide)) (rf 2 (by decide) (by decide)) (by rw [rf 0 (by decide) (by decide)]) (fun p q1 q2 q3 => ?_) (fun p hp => if_pos hp)
    · rw [wRem_c _ (by decide), wRem_c _ (by decide), wRem_c _ (by decide)]
      exact h2.fr (fun p q1 q2 => rf p (by omega) (by omega))
    · rw [r22 9 (by decide) (by decide), r22 10 (by decide) (by decide), r22 8 (by decide) (by decide), wRem_c _ (by decide), wRem_c _ (by decide), wRem_c _ (by decide), wRem_7]
      exact ⟨h5, h6, h7, by rw [hσ', sI_wIs]⟩
    · rw [rf 40 (by decide) (by decide), rf 41 (by decide) (by decide), rf 42 (by decide) (by decide), wRem_c _ (by decide)]
      exact h9
    · rw [hσ', sI_wIk _ _ _ _ (by decide), sI_wIs]
    · intro s hs c hc
      rw [sR'] at hc
      by_cases e : s = np
      · subst e
        rw [k2] at hc
        injection hc with hc
        subst hc
        exact ⟨hb56, ⟨by rw [sN']; exact k4.1, fun i hi => by rw [sS1]; exact k4.2 i hi⟩, how⟩
      · rw [k8 _ _ (by omega) (Or.inr e)] at hc
        obtain ⟨q1, q2, q3⟩ := g3 s hs c hc
        have : c + 4 ≤ sN σ := q2.1
        exact ⟨q1, q2.fr (by omega) sS', fun i hi => (if_pos (by omega)).trans (q3 i hi)⟩
    · intro i hi
      rw [wRem_7] at hi
      by_cases e : i = 0
      · subst e
        refine ⟨b, ?_, ?_⟩
        · rw [sR', show ((np + 1) % 20 + 19 - 0) % 20 = np by omega]; exact k2
        · rw [wRem_0]; exact k3.fr (fun p q1 q2 => r p (by omega))
      · obtain ⟨c, q1, q2⟩ := g4 (i - 1) (by omega)
        have hsl : ((np + 1) % 20 + 19 - i) % 20 = (np + 19 - (i - 1)) % 20 := by omega
        have hnp : (np + 19 - (i - 1)) % 20 ≠ np := by omega
        have hlt := Nat.mod_lt (np + 19 - (i - 1)) (show 0 < 20 by decide)
        obtain ⟨u1, u2, u3⟩ := g3 _ hlt c q1
        have : c + 4 ≤ sN σ := u2.1
        refine ⟨c, ?_, ?_⟩
        · rw [sR', hsl, k8 _ _ (by omega) (Or.inr hnp)]; exact q1
        · rw [wRem_s _ e]
          refine q2.fr (fun p v1 v2 => ?_)
          have := u3 (p - c) (by omega)
          rw [show c + (p - c) = p by omega] at this
          rw [r p (by omega), hne p (by omega) (Or.inr (by omega))]
    · funext j
      rw [sR', k8 c j q3 (Or.inl q2)]
    · rw [r p (by omega), hne p q2 (Or.inr (by omega))]
/-! the reference's row of acts -/
theorem mv_keep {a k i : Nat} {σ : MS} (ha0 : a ≠ 0) (ha : a ≠ 38) (hi : i < 380) (h1 : sI σ 0 52 = nI i) (h2 : sI σ 0 53 = 0) : ∃ r σ1, f_X12_moves (sI σ a k) σ = some (r, σ1) ∧ Sm σ (wI σ1 a k r) ∧ sI (wI σ1 a k r) 0 52 = nI (i + 1) ∧ (∀ j, j ≠ 52 → sI (wI σ1 a k r) 0 j = sI σ 0 j) ∧ (∀ b, b ≠ 0 → b ≠ 38 → sI (wI σ1 a k r) b = sI σ b) ∧ (∀ j, sI (wI σ1 a k r) 38 j = if j = i then sI σ a k else sI σ 38 j) := by
  have e : sI (wI σ 38 i (sI σ a k)) 0 52 = nI i := by rw [sI_wIn _ _ _ _ (by decide)]; exact h1
  refine ⟨sI σ a k, wI (wI σ 38 i (sI σ a k)) 0 52 (nI (i + 1)), ?_, ⟨rfl, rfl, rfl⟩, ?_, fun j hj => ?_, fun b hb0 hb => ?_, fun j => ?_⟩
  · unfold f_X12_moves b_X12_moves_0 b_X12_moves_20
    rw [if_pos h2, h1, chk_t (in_n hi (by decide)), ix_n (by omega), e, nI_1]
  · rw [sI_wIn _ _ _ _ (fun q => ha0 q.symm), sI_wIs]
  · rw [sI_wIn _ _ _ _ (fun q => ha0 q.symm), sI_wIk _ _ _ _ hj, sI_wIn _ _ _ _ (by decide)]
  · by_cases c : b = a
    · subst c
      funext j
      by_cases d : j = k
      · subst d; rw [sI_wIs]
      · rw [sI_wIk _ _ _ _ d, sI_wIn _ _ _ _ hb0, sI_wIn _ _ _ _ hb]
    · rw [sI_wIn _ _ _ _ c, sI_wIn _ _ _ _ hb0, sI_wIn _ _ _ _ hb]
  · rw [sI_wIn _ _ _ _ (fun q => ha q.symm), sI_wIn _ _ _ _ (by decide)]
    by_cases d : j = i
    · subst d; rw [sI_wIs, if_pos rfl]
    · rw [sI_wIk _ _ _ _ d, if_neg d]
theorem mv_back {a k i : Nat} {σ : MS} (ha0 : a ≠ 0) (ha : a ≠ 38) (hi : i < 380) (h1 : sI σ 0 52 = nI i) (h2 : sI σ 0 53 = 1) : ∃ r σ1, f_X12_moves (sI σ a k) σ = some (r, σ1) ∧ Sm σ (wI σ1 a k r) ∧ sI (wI σ1 a k r) 0 52 = nI (i + 1) ∧ (∀ j, j ≠ 52 → sI (wI σ1 a k r) 0 j = sI σ 0 j) ∧ (∀ b, b ≠ 0 → b ≠ a → sI (wI σ1 a k r) b = sI σ b) ∧ (∀ j, sI (wI σ1 a k r) a j = if j = k then sI σ 38 i else sI σ a j) := by
  have e : sI (wI σ 38 i (sI σ 38 i)) 0 52 = nI i := by rw [sI_wIn _ _ _ _ (by decide)]; exact h1
  have h38 : sI (wI σ 38 i (sI σ 38 i)) 38 = sI σ 38 := by
    funext j
    by_cases d : j = i
    · subst d; rw [sI_wIs]
    · rw [sI_wIk _ _ _ _ d]
  refine ⟨sI σ 38 i, wI (wI σ 38 i (sI σ 38 i)) 0 52 (nI (i + 1)), ?_, ⟨rfl, rfl, rfl⟩, ?_, fun j hj => ?_, fun b hb0 hb => ?_, fun j => ?_⟩
  · unfold f_X12_moves b_X12_moves_0 b_X12_moves_20
    rw [if_neg (by rw [h2]; decide), h1, chk_t (in_n hi (by decide)), chk_t (in_n hi (by decide)), ix_n (by omega), e, nI_1]
  · rw [sI_wIn _ _ _ _ (fun q => ha0 q.symm), sI_wIs]
  · rw [sI_wIn _ _ _ _ (fun q => ha0 q.symm), sI_wIk _ _ _ _ hj, sI_wIn _ _ _ _ (by decide)]
  · rw [sI_wIn _ _ _ _ hb, sI_wIn _ _ _ _ hb0]
    by_cases c : b = 38
    · subst c; exact h38
    · rw [sI_wIn _ _ _ _ c]
  · by_cases d : j = k
    · subst d; rw [sI_wIs, if_pos rfl]
    · rw [sI_wIk _ _ _ _ d, if_neg d, sI_wIn _ _ _ _ ha0, sI_wIn _ _ _ _ ha]
theorem mrow_keep {a n1 i : Nat} (ha0 : a ≠ 0) (ha : a ≠ 38) (hi : i + n1 ≤ 380) : ∀ (j k n : Nat) (σ : MS), k + j = n1 → j < n → sI σ 0 52 = nI (i + k) → sI σ 0 53 = 0 →
    ∃ σ', b_X12_movesRow_2 a n1 n (nI k) σ = some σ' ∧ Sm σ σ' ∧ sI σ' 0 52 = nI (i + n1) ∧ (∀ j, j ≠ 52 → sI σ' 0 j = sI σ 0 j) ∧ (∀ b, b ≠ 0 → b ≠ 38 → sI σ' b = sI σ b) ∧ (∀ j, sI σ' 38 j = if i + k ≤ j ∧ j < i + n1 then sI σ a (j - i) else sI σ 38 j)
  | 0, k, n + 1, σ, hk, _, h1, h2 => by
    refine ⟨σ, ?_, Sm.refl σ, by rw [h1, show k = n1 by omega], fun _ _ => rfl, fun _ _ _ => rfl, fun j => by rw [if_neg (by omega)]⟩
    unfold b_X12_movesRow_2
    rw [ofN, q_le (by omega) (by omega), if_pos (by omega)]
  | j + 1, k, n + 1, σ, hk, hj, h1, h2 => by
    obtain ⟨r, σ1, a1, a2, a3, a4, a5, a6⟩ := mv_keep (k := k) ha0 ha (show i + k < 380 by omega) h1 h2
    obtain ⟨σ', g1, g2, g3, g4, g5, g6⟩ := mrow_keep ha0 ha hi j (k + 1) n (wI σ1 a k r) (by omega) (by omega) a3 (by rw [a4 53 (by decide)]; exact h2)
    refine ⟨σ', ?_, a2.trans g2, g3, fun j hj => (g4 j hj).trans (a4 j hj), fun b q1 q2 => (g5 b q1 q2).trans (a5 b q1 q2), fun j => ?_⟩
    · unfold b_X12_movesRow_2
      rw [ofN, q_le (by omega) (by omega), if_neg (by omega), chk_t (in_n (show k < n1 by omega) (by omega)), ix_n (by omega), a1, bnd, chk_t (in_n (show k < n1 by omega) (by omega)), nI_1]
      exact g1
    · rw [g6 j, a5 a ha0 ha, a6 j]
      by_cases e : j = i + k
      · subst e
        rw [if_neg (by omega), if_pos rfl, if_pos (by omega), Nat.add_sub_cancel_left]
      · rw [if_neg e]; exact ite_iff (by omega) _ _
  | _, _, 0, _, _, hn, _, _ => absurd hn (Nat.not_lt_zero _)
theorem mrow_back {a n1 i : Nat} (ha0 : a ≠ 0) (ha : a ≠ 38) (hi : i + n1 ≤ 380) : ∀ (j k n : Nat) (σ : MS), k + j = n1 → j < n → sI σ 0 52 = nI (i + k) → sI σ 0 53 = 1 →
    ∃ σ', b_X12_movesRow_2 a n1 n (nI k) σ = some σ' ∧ Sm σ σ' ∧ sI σ' 0 52 = nI (i + n1) ∧ (∀ j, j ≠ 52 → sI σ' 0 j = sI σ 0 j) ∧ (∀ b, b ≠ 0 → b ≠ a → sI σ' b = sI σ b) ∧ (∀ j, sI σ' a j = if k ≤ j ∧ j < n1 then sI σ 38 (i + j) else sI σ a j)
  | 0, k, n + 1, σ, hk, _, h1, h2 => by
    refine ⟨σ, ?_, Sm.refl σ, by rw [h1, show k = n1 by omega], fun _ _ => rfl, fun _ _ _ => rfl, fun j => by rw [if_neg (by omega)]⟩
    unfold b_X12_movesRow_2
    rw [ofN, q_le (by omega) (by omega), if_pos (by omega)]
  | j + 1, k, n + 1, σ, hk, hj, h1, h2 => by
    obtain ⟨r, σ1, a1, a2, a3, a4, a5, a6⟩ := mv_back (k := k) ha0 ha (show i + k < 380 by omega) h1 h2
    obtain ⟨σ', g1, g2, g3, g4, g5, g6⟩ := mrow_back ha0 ha hi j (k + 1) n (wI σ1 a k r) (by omega) (by omega) a3 (by rw [a4 53 (by decide)]; exact h2)
    refine ⟨σ', ?_, a2.trans g2, g3, fun j hj => (g4 j hj).trans (a4 j hj), fun b q1 q2 => (g5 b q1 q2).trans (a5 b q1 q2), fun j => ?_⟩
    · unfold b_X12_movesRow_2
      rw [ofN, q_le (by omega) (by omega), if_neg (by omega), chk_t (in_n (show k < n1 by omega) (by omega)), ix_n (by omega), a1, bnd, chk_t (in_n (show k < n1 by omega) (by omega)), nI_1]
      exact g1
    · rw [g6 j, a5 38 (by decide) (fun q => ha q.symm), a6 j]
      by_cases e : j = k
      · subst e
        rw [if_neg (by omega), if_pos rfl, if_pos (by omega)]
      · rw [if_neg e]; exact ite_iff (by omega) _ _
  | _, _, 0, _, _, hn, _, _ => absurd hn (Nat.not_lt_zero _)
/-- a state is written into the row of acts -/
theorem m_mvKeep {t : Nat} (σ : MS) (ht : t < 20) : ∃ σ', f_X12_movesAll (nI t) 0 σ = some σ' ∧ Sm σ σ' ∧ (∀ j, j ≠ 52 → j ≠ 53 → sI σ' 0 j = sI σ 0 j) ∧ (∀ b, b ≠ 0 → b ≠ 38 → sI σ' b = sI σ b) ∧ (sI σ' 38 (19 * t) = sI σ 1 1 ∧ sI σ' 38 (19 * t + 1) = sI σ 1 5 ∧ sI σ' 38 (19 * t + 2) = sI σ 1 6 ∧ (∀ p, p < 4 → sI σ' 38 (19 * t + 3 + p) = sI σ 4 p) ∧ (∀ w, w < 6 → sI σ' 38 (19 * t + 7 + w) = sI σ 9 w ∧ sI σ' 38 (19 * t + 13 + w) = sI σ 10 w)) ∧ (∀ j, j < 19 * t ∨ 19 * t + 19 ≤ j → sI σ' 38 j = sI σ 38 j) := by
  have hF := FU_big
  obtain ⟨σ0, h0⟩ : ∃ σ0, σ0 = wI (wI σ 0 52 (nI (19 * t))) 0 53 0 := ⟨_, rfl⟩
  have z52 : sI σ0 0 52 = nI (19 * t) := by rw [h0, sI_wIk _ _ _ _ (by decide), sI_wIs]
  have z53 : sI σ0 0 53 = 0 := by rw [h0, sI_wIs]
  have zk : ∀ j, j ≠ 52 → j ≠ 53 → sI σ0 0 j = sI σ 0 j := fun j q1 q2 => by rw [h0, sI_wIk _ _ _ _ q2, sI_wIk _ _ _ _ q1]
  have zn : ∀ b, b ≠ 0 → sI σ0 b = sI σ b := fun b hb => by rw [h0, sI_wIn _ _ _ _ hb, sI_wIn _ _ _ _ hb]
  obtain ⟨r1, τ1, a1, a2, a3, a4, a5, a6⟩ := mv_keep (a := 1) (k := 1) (i := 19 * t) (σ := σ0) (by decide) (by decide) (by omega) z52 z53
  obtain ⟨r2, τ2, b1, b2, b3, b4, b5, b6⟩ := mv_keep (a := 1) (k := 5) (i := 19 * t + 1) (σ := wI τ1 1 1 r1) (by decide) (by decide) (by omega) a3 (by rw [a4 53 (by decide)]; exact z53)
  obtain ⟨r3, τ3, c1, c2, c3, c4, c5, c6⟩ := mv_keep (a := 1) (k := 6) (i := 19 * t + 2) (σ := wI τ2 1 5 r2) (by decide) (by decide) (by omega) b3 (by rw [b4 53 (by decide), a4 53 (by decide)]; exact z53)
  obtain ⟨σ4, d1, d2, d3, d4, d5, d6⟩ := mrow_keep (a := 4) (n1 := 4) (i := 19 * t + 3) (by decide) (by decide) (by omega) 4 0 FU (wI τ3 1 6 r3) (by decide) (by omega) c3 (by rw [c4 53 (by decide), b4 53 (by decide), a4 53 (by decide)]; exact z53)
  obtain ⟨σ5, e1, e2, e3, e4, e5, e6⟩ := mrow_keep (a := 9) (n1 := 6) (i := 19 * t + 3 + 4) (by decide) (by decide) (by omega) 6 0 FU σ4 (by decide) (by omega) d3 (by rw [d4 53 (by decide), c4 53 (by decide), b4 53 (by decide), a4 53 (by decide)]; exact z53)
  obtain ⟨σ6, f1, f2, f3, f4, f5, f6⟩ := mrow_keep (a := 10) (n1 := 6) (i := 19 * t + 3 + 4 + 6) (by decide) (by decide) (by omega) 6 0 FU σ5 (by decide) (by omega) e3 (by rw [e4 53 (by decide), d4 53 (by decide), c4 53 (by decide), b4 53 (by decide), a4 53 (by decide)]; exact z53)
  have row : ∀ b, b ≠ 0 → b ≠ 38 → sI σ6 b = sI σ b := fun b q1 q2 => by rw [f5 b q1 q2, e5 b q1 q2, d5 b q1 q2, c5 b q1 q2, b5 b q1 q2, a5 b q1 q2, zn b q1]
  refine ⟨σ6, ?_, ?_, fun j q1 q2 => ?_, row, ⟨?_, ?_, ?_, fun p hp => ?_, fun w hw => ⟨?_, ?_⟩⟩, fun j hj => ?_⟩
  · unfold f_X12_movesAll b_X12_movesAll_0
    rw [chk_t (Or.inl rfl), ln_mul, ← h0, a1, bnd, b1, bnd, c1, bnd]
    show (f_X12_movesRow 4 4 (wI τ3 1 6 r3)).bind _ = _
    unfold f_X12_movesRow b_X12_movesRow_0
    rw [show (0 : Int32) = nI 0 from rfl, d1, bnd, e1, bnd, f1]
    rfl
  · have q : Sm σ σ0 := by rw [h0]; exact ⟨rfl, rfl, rfl⟩
    exact q.trans (a2.trans (b2.trans (c2.trans (d2.trans (e2.trans f2)))))
  · rw [f4 j q1, e4 j q1, d4 j q1, c4 j q1, b4 j q1, a4 j q1, zk j q1 q2]
  · rw [f6, if_neg (by omega), e6, if_neg (by omega), d6, if_neg (by omega), c6, if_neg (by omega), b6, if_neg (by omega), a6, if_pos rfl, zn 1 (by decide)]
  · rw [f6, if_neg (by omega), e6, if_neg (by omega), d6, if_neg (by omega), c6, if_neg (by omega), b6, if_pos rfl, a5 1 (by decide) (by decide), zn 1 (by decide)]
  · rw [f6, if_neg (by omega), e6, if_neg (by omega), d6, if_neg (by omega), c6, if_pos rfl, b5 1 (by decide) (by decide), a5 1 (by decide) (by decide), zn 1 (by decide)]
  · rw [f6, if_neg (by omega), e6, if_neg (by omega), d6, if_pos (by omega), c5 4 (by decide) (by decide), b5 4 (by decide) (by decide), a5 4 (by decide) (by decide), zn 4 (by decide)]
    congr 1; omega
  · rw [f6, if_neg (by omega), e6, if_pos (by omega), d5 9 (by decide) (by decide), c5 9 (by decide) (by decide), b5 9 (by decide) (by decide), a5 9 (by decide) (by decide), zn 9 (by decide)]
    congr 1; omega
  · rw [f6, if_pos (by omega), e5 10 (by decide) (by decide), d5 10 (by decide) (by decide), c5 10 (by decide) (by decide), b5 10 (by decide) (by decide), a5 10 (by decide) (by decide), zn 10 (by decide)]
    congr 1; omega
  · rw [f6, if_neg (by omega), e6, if_neg (by omega), d6, if_neg (by omega), c6, if_neg (by omega), b6, if_neg (by omega), a6, if_neg (by omega), zn 38 (by decide)]
/-- and taken out of it -/
theorem m_mvBack {t : Nat} (σ : MS) (ht : t < 20) : ∃ σ', f_X12_movesAll (nI t) 1 σ = some σ' ∧ Sm σ σ' ∧ (∀ j, j ≠ 52 → j ≠ 53 → sI σ' 0 j = sI σ 0 j) ∧ (∀ b, b ≠ 0 → b ≠ 1 → b ≠ 4 → b ≠ 9 → b ≠ 10 → sI σ' b = sI σ b) ∧ (∀ j, j ≠ 1 → j ≠ 5 → j ≠ 6 → sI σ' 1 j = sI σ 1 j) ∧ (sI σ' 1 1 = sI σ 38 (19 * t) ∧ sI σ' 1 5 = sI σ 38 (19 * t + 1) ∧ sI σ' 1 6 = sI σ 38 (19 * t + 2) ∧ (∀ p, p < 4 → sI σ' 4 p = sI σ 38 (19 * t + 3 + p)) ∧ (∀ w, w < 6 → sI σ' 9 w = sI σ 38 (19 * t + 7 + w) ∧ sI σ' 10 w = sI σ 38 (19 * t + 13 + w))) := by
  have hF := FU_big
  obtain ⟨σ0, h0⟩ : ∃ σ0, σ0 = wI (wI σ 0 52 (nI (19 * t))) 0 53 1 := ⟨_, rfl⟩
  have z52 : sI σ0 0 52 = nI (19 * t) := by rw [h0, sI_wIk _ _ _ _ (by decide), sI_wIs]
  have z53 : sI σ0 0 53 = 1 := by rw [h0, sI_wIs]
  have zk : ∀ j, j ≠ 52 → j ≠ 53 → sI σ0 0 j = sI σ 0 j := fun j q1 q2 => by rw [h0, sI_wIk _ _ _ _ q2, sI_wIk _ _ _ _ q1]
  have zn : ∀ b, b ≠ 0 → sI σ0 b = sI σ b := fun b hb => by rw [h0, sI_wIn _ _ _ _ hb, sI_wIn _ _ _ _ hb]
  obtain ⟨r1, τ1, a1, a2, a3, a4, a5, a6⟩ := mv_back (a := 1) (k := 1) (i := 19 * t) (σ := σ0) (by decide) (by decide) (by omega) z52 z53
  obtain ⟨r2, τ2, b1, b2, b3, b4, b5, b6⟩ := mv_back (a := 1) (k := 5) (i := 19 * t + 1) (σ := wI τ1 1 1 r1) (by decide) (by decide) (by omega) a3 (by rw [a4 53 (by decide)]; exact z53)
  obtain ⟨r3, τ3, c1, c2, c3, c4, c5, c6⟩ := mv_back (a := 1) (k := 6) (i := 19 * t + 2) (σ := wI τ2 1 5 r2) (by decide) (by decide) (by omega) b3 (by rw [b4 53 (by decide), a4 53 (by decide)]; exact z53)
  obtain ⟨σ4, d1, d2, d3, d4, d5, d6⟩ := mrow_back (a := 4) (n1 := 4) (i := 19 * t + 3) (by decide) (by decide) (by omega) 4 0 FU (wI τ3 1 6 r3) (by decide) (by omega) c3 (by rw [c4 53 (by decide), b4 53 (by decide), a4 53 (by decide)]; exact z53)
  obtain ⟨σ5, e1, e2, e3, e4, e5, e6⟩ := mrow_back (a := 9) (n1 := 6) (i := 19 * t + 3 + 4) (by decide) (by decide) (by omega) 6 0 FU σ4 (by decide) (by omega) d3 (by rw [d4 53 (by decide), c4 53 (by decide), b4 53 (by decide), a4 53 (by decide)]; exact z53)
  obtain ⟨σ6, f1, f2, f3, f4, f5, f6⟩ := mrow_back (a := 10) (n1 := 6) (i := 19 * t + 3 + 4 + 6) (by decide) (by decide) (by omega) 6 0 FU σ5 (by decide) (by omega) e3 (by rw [e4 53 (by decide), d4 53 (by decide), c4 53 (by decide), b4 53 (by decide), a4 53 (by decide)]; exact z53)
  have row1 : sI σ6 1 = sI (wI τ3 1 6 r3) 1 := by rw [f5 1 (by decide) (by decide), e5 1 (by decide) (by decide), d5 1 (by decide) (by decide)]
  have r38c : sI (wI τ3 1 6 r3) 38 = sI σ 38 := by rw [c5 38 (by decide) (by decide), b5 38 (by decide) (by decide), a5 38 (by decide) (by decide), zn 38 (by decide)]
  have r38d : sI σ4 38 = sI σ 38 := by rw [d5 38 (by decide) (by decide), r38c]
  have r38e : sI σ5 38 = sI σ 38 := by rw [e5 38 (by decide) (by decide), r38d]
  refine ⟨σ6, ?_, ?_, fun j q1 q2 => ?_, fun b q0 q1 q4 q9 q10 => ?_, fun j q1 q5 q6 => ?_, ⟨?_, ?_, ?_, fun p hp => ?_, fun w hw => ⟨?_, ?_⟩⟩⟩
  · unfold f_X12_movesAll b_X12_movesAll_0
    rw [chk_t (Or.inr rfl), ln_mul, ← h0, a1, bnd, b1, bnd, c1, bnd]
    show (f_X12_movesRow 4 4 (wI τ3 1 6 r3)).bind _ = _
    unfold f_X12_movesRow b_X12_movesRow_0
    rw [show (0 : Int32) = nI 0 from rfl, d1, bnd, e1, bnd, f1]
    rfl
  · have q : Sm σ σ0 := by rw [h0]; exact ⟨rfl, rfl, rfl⟩
    exact q.trans (a2.trans (b2.trans (c2.trans (d2.trans (e2.trans f2)))))
  · rw [f4 j q1, e4 j q1, d4 j q1, c4 j q1, b4 j q1, a4 j q1, zk j q1 q2]
  · rw [f5 b q0 q10, e5 b q0 q9, d5 b q0 q4, c5 b q0 q1, b5 b q0 q1, a5 b q0 q1, zn b q0]
  · rw [row1, c6, if_neg q6, b6, if_neg q5, a6, if_neg q1, zn 1 (by decide)]
  · rw [row1, c6, if_neg (by decide), b6, if_neg (by decide), a6, if_pos rfl, zn 38 (by decide)]
  · rw [row1, c6, if_neg (by decide), b6, if_pos rfl, a5 38 (by decide) (by decide), zn 38 (by decide)]
  · rw [row1, c6, if_pos rfl, b5 38 (by decide) (by decide), a5 38 (by decide) (by decide), zn 38 (by decide)]
  · rw [f5 4 (by decide) (by decide), e5 4 (by decide) (by decide), d6, if_pos (by omega), r38c]
  · rw [f5 9 (by decide) (by decide), e6, if_pos (by omega), r38d]
  · rw [f6, if_pos (by omega), r38e]
theorem shift_loop : ∀ (j k n : Nat) (σ : MS), k + j = 380 → 19 ≤ k → j < n → ∃ σ', b_X12_keepsAct_12 n (nI k) σ = b_X12_keepsAct_50 (wI σ' 0 51 (sI σ' 0 51 - 1)) ∧ Sm σ σ' ∧ (∀ b, b ≠ 38 → sI σ' b = sI σ b) ∧ (∀ i, sI σ' 38 i = if k - 19 ≤ i ∧ i < 361 then sI σ 38 (i + 19) else sI σ 38 i)
  | 0, k, n + 1, σ, hk, _, _ => by
    refine ⟨σ, ?_, Sm.refl σ, fun _ _ => rfl, fun j => by rw [if_neg (by omega)]⟩
    conv => lhs; unfold b_X12_keepsAct_12
    rw [q_ln_le (by decide) (by omega), if_pos (by omega)]
  | j + 1, k, n + 1, σ, hk, h19, hj => by
    obtain ⟨σ', g1, g2, g3, g4⟩ := shift_loop j (k + 1) n (wI σ 38 (k - 19) (sI σ 38 k)) (by omega) (by omega) (by omega)
    refine ⟨σ', ?_, ⟨g2.1, g2.2.1, g2.2.2⟩, fun b hb => by rw [g3 b hb, sI_wIn _ _ _ _ hb], fun i => ?_⟩
    · conv => lhs; unfold b_X12_keepsAct_12
      rw [q_ln_le (by decide) (by omega), if_neg (by omega), chk_t (in_n (show k < 380 by omega) (by decide)), nl_sub h19, chk_t (in_n (show k - 19 < 380 by omega) (by decide)), ix_n (by omega), ix_n (by omega), nI_1]
      exact g1
    · rw [g4 i]
      by_cases e : i = k - 19
      · subst e
        rw [if_neg (by omega), if_pos (by omega), sI_wIs, show k - 19 + 19 = k by omega]
      · rw [sI_wIk _ _ _ _ e]
        by_cases q : k - 19 ≤ i ∧ i < 361
        · rw [if_pos q, if_pos (by omega), sI_wIk _ _ _ _ (by omega)]
        · rw [if_neg q, if_neg (by omega)]
  | _, _, 0, _, _, _, hn => absurd hn (Nat.not_lt_zero _)
theorem PM.mv {σ σ' : MS} {P N t t' : Nat} {S : Row2} (h : PM σ P N t S) (hP : P ≤ 4) (hN : N ≤ 6) (hr : ∀ x, x < 19 → sI σ' 38 (19 * t' + x) = sI σ 38 (19 * t + x)) : PM σ' P N t' S := by
  obtain ⟨a1, a2, a3, a4, a5⟩ := h
  refine ⟨(hr 0 (by decide)).trans a1, (hr 1 (by decide)).trans a2, (hr 2 (by decide)).trans a3, fun p hp => ?_, fun w hw => ⟨?_, ?_⟩⟩
  · rw [Nat.add_assoc, hr (3 + p) (by omega), ← Nat.add_assoc]; exact a4 p hp
  · rw [Nat.add_assoc, hr (7 + w) (by omega), ← Nat.add_assoc]; exact (a5 w hw).1
  · rw [Nat.add_assoc, hr (13 + w) (by omega), ← Nat.add_assoc]; exact (a5 w hw).2
theorem m_keep50 {P N t : Nat} {S : Row2} {σ : MS} (h : SM σ P N S) (hP : P ≤ 4) (hN : N ≤ 6) (ht : t < 20) (h51 : sI σ 0 51 = nI t) : ∃ σ', b_X12_keepsAct_50 σ = some σ' ∧ sI σ' 0 51 = nI (t + 1) ∧ (∀ j, j ≠ 51 → j ≠ 52 → j ≠ 53 → sI σ' 0 j = sI σ 0 j) ∧ (∀ b, b ≠ 0 → b ≠ 38 → sI σ' b = sI σ b) ∧ PM σ' P N t S ∧ (∀ j, j < 19 * t ∨ 19 * t + 19 ≤ j → sI σ' 38 j = sI σ 38 j) ∧ Sm σ σ' := by
  obtain ⟨σ1, a1, a2, a3, a4, ⟨a5, a6, a7, a8, a9⟩, a10⟩ := m_mvKeep σ ht
  refine ⟨wI σ1 0 51 (nI (t + 1)), ?_, sI_wIs _ _ _ _, fun j q1 q2 q3 => by rw [sI_wIk _ _ _ _ q1, a3 j q2 q3], fun b q1 q2 => by rw [sI_wIn _ _ _ _ q1, a4 b q1 q2], ?_, fun j hj => by rw [sI_wIn _ _ _ _ (by decide), a10 j hj], ⟨a2.1, a2.2.1, a2.2.2⟩⟩
  · unfold b_X12_keepsAct_50
    rw [h51, a1, bnd, a3 51 (by decide) (by decide), h51, nI_1]
  · unfold PM
    rw [sI_wIn _ _ _ _ (show (38 : Nat) ≠ 0 by decide)]
    exact ⟨a5.trans h.2.2.2.1, a6.trans h.2.2.2.2, a7.trans h.2.2.1, fun p hp => (a8 p (by omega)).trans (h.2.1 p hp), fun w hw => ⟨(a9 w (by omega)).1.trans (h.1 w hw).1, (a9 w (by omega)).2.trans (h.1 w hw).2⟩⟩
/-- the reference keeps an act -/
theorem m_keepsAct {W : Wd} {σ : MS} (hm : MW σ W) (hW : WW W) : ∃ σ', f_X12_keepsAct σ = some σ' ∧ MW σ' (wRem W) ∧ (∀ j, j ≠ 51 → j ≠ 52 → j ≠ 53 → sI σ' 0 j = sI σ 0 j) ∧ (∀ b, b ≠ 0 → b ≠ 38 → sI σ' b = sI σ b) ∧ Sm σ σ' := by
  obtain ⟨⟨a1, a2⟩, a3, ⟨a4, a5, a6⟩, ⟨a7, a8, a9, a10⟩, a11, a12⟩ := hm
  obtain ⟨⟨w1, w2, w3, w4, w5⟩, ⟨⟨⟨w6, w7, w8, _⟩, _⟩, _⟩, _⟩ := hW
  have fin : ∀ (σ' : MS), (∀ j, j ≠ 51 → j ≠ 52 → j ≠ 53 → sI σ' 0 j = sI σ 0 j) → (∀ b, b ≠ 0 → b ≠ 38 → sI σ' b = sI σ b) → sI σ' 0 51 = nI (min 20 (wc W 7 + 1)) → (∀ i, i < min 20 (wc W 7 + 1) → PM σ' (wc W 2) (wc W 3) (min 20 (wc W 7 + 1) - 1 - i) (wQ (wRem W) i)) → MW σ' (wRem W) := fun σ' q0 q1 q51 q => by
    unfold MW
    rw [wRem_c W (j := 0) (by decide), wRem_c W (j := 1) (by decide), wRem_c W (j := 2) (by decide), wRem_c W (j := 3) (by decide), wRem_c W (j := 4) (by decide), wRem_c W (j := 5) (by decide), wRem_c W (j := 6) (by decide), wRem_7]
    refine ⟨⟨by rw [q0 28 (by decide) (by decide) (by decide)]; exact a1, a2.cg w6 w7 w8 (fun j _ => by rw [q1 1 (by decide) (by decide)]) (fun b j hb _ => by rw [q1 b (by omega) (by omega)])⟩, a3.cg w7 w8 (fun j _ => by rw [q1 1 (by decide) (by decide)]) (fun j _ => by rw [q1 4 (by decide) (by decide)]) (fun j _ => by rw [q1 9 (by decide) (by decide)]) (fun j _ => by rw [q1 10 (by decide) (by decide)]), ⟨by rw [q1 15 (by decide) (by decide)]; exact a4, by rw [q1 16 (by decide) (by decide)]; exact a5, by rw [q1 17 (by decide) (by decide)]; exact a6⟩, ⟨by rw [q1 1 (by decide) (by decide)]; exact a7, by rw [q1 1 (by decide) (by decide)]; exact a8, by rw [q1 1 (by decide) (by decide)]; exact a9, q51⟩, by rw [q1 12 (by decide) (by decide), q1 13 (by decide) (by decide), q1 14 (by decide) (by decide)]; exact a11, q⟩
  unfold f_X12_keepsAct b_X12_keepsAct_0
  rw [a10, q_nl_eq (by decide) (by omega)]
  by_cases h20 : wc W 7 = 20
  · rw [if_pos h20]
    obtain ⟨σ1, b1, b2, b3, b4⟩ := shift_loop 361 19 FU σ (by decide) (by decide) (by have := FU_big; omega)
    have e51 : sI (wI σ1 0 51 (sI σ1 0 51 - 1)) 0 51 = nI 19 := by
      rw [sI_wIs, b3 0 (by decide), a10, h20]; rfl
    have hS1 : SM (wI σ1 0 51 (sI σ1 0 51 - 1)) (wc W 2) (wc W 3) (wS W) := a3.cg w7 w8 (fun j _ => by rw [sI_wIn _ _ _ _ (by decide), b3 1 (by decide)]) (fun j _ => by rw [sI_wIn _ _ _ _ (by decide), b3 4 (by decide)]) (fun j _ => by rw [sI_wIn _ _ _ _ (by decide), b3 9 (by decide)]) (fun j _ => by rw [sI_wIn _ _ _ _ (by decide), b3 10 (by decide)])
    obtain ⟨σ2, c1, c2, c3, c4, c5, c6, c7⟩ := m_keep50 hS1 w7 w8 (show 19 < 20 by decide) e51
    have r0 : ∀ j, j ≠ 51 → j ≠ 52 → j ≠ 53 → sI σ2 0 j = sI σ 0 j := fun j q1 q2 q3 => by rw [c3 j q1 q2 q3, sI_wIk _ _ _ _ q1, b3 0 (by decide)]
    have rb : ∀ b, b ≠ 0 → b ≠ 38 → sI σ2 b = sI σ b := fun b q1 q2 => by rw [c4 b q1 q2, sI_wIn _ _ _ _ q1, b3 b q2]
    refine ⟨σ2, ?_, fin σ2 r0 rb (by rw [c2, h20]; rfl) (fun i hi => ?_), r0, rb, ⟨c7.1.trans b2.1, c7.2.1.trans b2.2.1, c7.2.2.trans b2.2.2⟩⟩
    · rw [show (19 : Int32) = nI 19 from rfl, b1, c1]
    · rw [h20] at hi ⊢
      by_cases e : i = 0
      · subst e; rw [wRem_0]; exact c5
      · rw [wRem_s _ e]
        refine (a12 (i - 1) (by omega)).mv w7 w8 (fun x hx => ?_)
        rw [c6 _ (by omega), sI_wIn _ _ _ _ (by decide), b4, if_pos (by omega), h20]
        exact congrArg (sI σ 38) (by omega)
  · rw [if_neg h20]
    obtain ⟨σ2, c1, c2, c3, c4, c5, c6, c7⟩ := m_keep50 a3 w7 w8 (show wc W 7 < 20 by omega) a10
    refine ⟨σ2, c1, fin σ2 c3 c4 (by rw [c2, Nat.min_eq_right (by omega)]) (fun i hi => ?_), c3, c4, c7⟩
    have hi : i < wc W 7 + 1 := by omega
    rw [Nat.min_eq_right (by omega : wc W 7 + 1 ≤ 20)]
    by_cases e : i = 0
    · subst e; rw [wRem_0]; exact c5
    · rw [wRem_s _ e]
      refine (a12 (i - 1) (by omega)).mv w7 w8 (fun x hx => ?_)
      rw [c6 _ (by omega)]
      exact congrArg (sI σ 38) (by omega)
/-- an act is kept, on both sides -/
theorem keep2 {t : Nat} {ow : Nat → Nat} {W : Wd} {Wi : Nat → Option Wd} {RR : List (List Cls)} {T : Nat → Nat} {len : Nat} {σx σm : MS} (hx : IX t ow W Wi RR T len σx) (hm : IM W Wi RR T len σm) (ho : OKW W Wi RR T len) (hsh : ShX σx) (ht : t < 600) : ∃ σx' σm' ow', f_X10_remember σx = some σx' ∧ f_X12_keepsAct σm = some σm' ∧ IX (t + 1) ow' (wRem W) Wi RR T len σx' ∧ IM (wRem W) Wi RR T len σm' ∧ OKW (wRem W) Wi RR T len := by
  obtain ⟨σx', ow', a1, a2⟩ := x_remember hx hsh ho.2.1.1 ho.2.2.1.1 ht
  obtain ⟨σm', b1, b2, b3, b4, _⟩ := m_keepsAct hm.2.2.1 ho.2.2.1.1
  refine ⟨σx', σm', ow', a1, b1, a2, hm.w (fun k V hk hV => (ho.2.2.2 k V hk hV).1) b2 (fun j hj => b3 j (by omega) (by omega) (by omega)) (fun b hb => b4 b (by omega) (by omega)) (fun j _ => by rw [b4 45 (by decide) (by decide)]), ho.1, ho.2.1, ⟨ho.2.2.1.1.rem, by rw [wRem_c _ (by decide)]; exact ho.2.2.1.2⟩, ho.2.2.2⟩
end
