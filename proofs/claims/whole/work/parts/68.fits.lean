/-! ===== pure: which rules fit the logs ===== -/
section
theorem copies_loop {a0 a1 n0 n1 : Nat} (hne : a0 ≠ a1) (h01 : n0 ≤ n1) (hn : n1 < 10000) : ∀ (j k n : Nat) (σ : MS), k + j = n0 → j < n → ∃ σ', b_X12_copies_2 a0 n0 a1 n1 n (nI k) σ = some σ' ∧ Sm σ σ' ∧ (∀ b, b ≠ a1 → sI σ' b = sI σ b) ∧ (∀ i, sI σ' a1 i = if k ≤ i ∧ i < n0 then sI σ a0 i else sI σ a1 i)
  | 0, k, n + 1, σ, hk, _ => by
    refine ⟨σ, ?_, Sm.refl σ, fun _ _ => rfl, fun i => by rw [if_neg (by omega)]⟩
    unfold b_X12_copies_2
    rw [ofN, q_le (by omega) (by omega), if_pos (by omega)]
  | j + 1, k, n + 1, σ, hk, hj => by
    obtain ⟨σ', g1, g2, g3, g4⟩ := copies_loop hne h01 hn j (k + 1) n (wI σ a1 k (sI σ a0 k)) (by omega) (by omega)
    refine ⟨σ', ?_, ⟨g2.1, g2.2.1, g2.2.2⟩, fun b hb => by rw [g3 b hb, sI_wIn _ _ _ _ hb], fun i => ?_⟩
    · unfold b_X12_copies_2
      rw [ofN, q_le (by omega) (by omega), if_neg (by omega), chk_t (in_n (show k < n0 by omega) (by omega)), chk_t (in_n (show k < n1 by omega) (by omega)), ix_n (by omega), nI_1]
      exact g1
    · rw [g4 i, sI_wIn _ _ _ _ hne]
      by_cases e : i = k
      · subst e; rw [if_neg (by omega), if_pos (by omega), sI_wIs]
      · rw [sI_wIk _ _ _ _ e]
        by_cases q : k ≤ i ∧ i < n0
        · rw [if_pos q, if_pos (by omega)]
        · rw [if_neg q, if_neg (by omega)]
  | _, _, 0, _, _, hn => absurd hn (Nat.not_lt_zero _)
theorem m_copies {a0 a1 n0 n1 : Nat} (hne : a0 ≠ a1) (h01 : n0 ≤ n1) (hn : n1 < 10000) (σ : MS) : ∃ σ', f_X12_copies a0 n0 a1 n1 σ = some σ' ∧ Sm σ σ' ∧ (∀ b, b ≠ a1 → sI σ' b = sI σ b) ∧ (∀ i, sI σ' a1 i = if i < n0 then sI σ a0 i else sI σ a1 i) := by
  have hF := FU_big
  obtain ⟨σ', g1, g2, g3, g4⟩ := copies_loop hne h01 hn n0 0 FU σ (by omega) (by omega)
  exact ⟨σ', g1, g2, g3, fun i => by rw [g4 i]; exact ite_iff (by omega) _ _⟩
theorem begins_loop : ∀ (j k n : Nat) (σ : MS), k + j = 6 → j < n → ∃ σ', b_X12_begins_51 n (nI k) σ = some σ' ∧ Sm σ σ' ∧ (∀ b, b ≠ 10 → sI σ' b = sI σ b) ∧ (∀ i, sI σ' 10 i = if k ≤ i ∧ i < 6 then 0 else sI σ 10 i)
  | 0, k, n + 1, σ, hk, _ => by
    refine ⟨σ, ?_, Sm.refl σ, fun _ _ => rfl, fun i => by rw [if_neg (by omega)]⟩
    unfold b_X12_begins_51
    rw [q_ln_le (by decide) (by omega), if_pos (by omega)]
  | j + 1, k, n + 1, σ, hk, hj => by
    obtain ⟨σ', g1, g2, g3, g4⟩ := begins_loop j (k + 1) n (wI σ 10 k 0) (by omega) (by omega)
    refine ⟨σ', ?_, ⟨g2.1, g2.2.1, g2.2.2⟩, fun b hb => by rw [g3 b hb, sI_wIn _ _ _ _ hb], fun i => ?_⟩
    · unfold b_X12_begins_51
      rw [q_ln_le (by decide) (by omega), if_neg (by omega), chk_t (in_n (show k < 6 by omega) (by decide)), ix_n (by omega), nI_1]
      exact g1
    · rw [g4 i]
      by_cases e : i = k
      · subst e; rw [if_neg (by omega), if_pos (by omega), sI_wIs]
      · rw [sI_wIk _ _ _ _ e]
        by_cases q : k ≤ i ∧ i < 6
        · rw [if_pos q, if_pos (by omega)]
        · rw [if_neg q, if_neg (by omega)]
  | _, _, 0, _, _, hn => absurd hn (Nat.not_lt_zero _)
/-- the reference at the begin -/
theorem m_begins {σ : MS} {P N : Nat} {S : Row2} (h1 : ∀ p, p < P → sI σ 15 p = nI (S 2 p)) (h2 : ∀ w, w < N → sI σ 16 w = hI (S 0 w)) (h3 : sI σ 17 0 = nI (S 3 4)) (hP : P ≤ 4) (hN : N ≤ 6) (z3 : S 3 3 = 0) (z5 : S 3 5 = 0) (z1 : ∀ w, w < 6 → S 1 w = 0) : ∃ σ', f_X12_begins σ = some σ' ∧ FM σ σ' ∧ SM σ' P N S := by
  have hF := FU_big
  obtain ⟨σ1, a1, a2, a3, a4⟩ := m_copies (a0 := 15) (a1 := 4) (n0 := 4) (n1 := 4) (by decide) (by decide) (by decide) σ
  obtain ⟨σ2, b1, b2, b3, b4⟩ := m_copies (a0 := 16) (a1 := 9) (n0 := 6) (n1 := 6) (by decide) (by decide) (by decide) σ1
  obtain ⟨σ3, c1, c2, c3, c4⟩ := begins_loop 6 0 FU (wI (wI (wI σ2 1 1 (sI σ2 17 0)) 1 5 (0 : Int32)) 1 6 (0 : Int32)) (by omega) (by omega)
  have e17 : sI σ2 17 0 = nI (S 3 4) := by rw [b3 17 (by decide), a3 17 (by decide)]; exact h3
  have w1 : ∀ b, b ≠ 1 → sI (wI (wI (wI σ2 1 1 (sI σ2 17 0)) 1 5 (0 : Int32)) 1 6 (0 : Int32)) b = sI σ2 b := fun b hb => by rw [sI_wIn _ _ _ _ hb, sI_wIn _ _ _ _ hb, sI_wIn _ _ _ _ hb]
  refine ⟨σ3, ?_, ⟨(a2.trans b2).trans ⟨c2.1, c2.2.1, c2.2.2⟩, fun b q1 q4 q9 q10 => ?_, fun j q1 q5 q6 => ?_⟩, ?_⟩
  · unfold f_X12_begins b_X12_begins_0
    rw [a1, bnd, b1, bnd]
    exact c1
  · rw [c3 b q10, w1 b q1, b3 b q9, a3 b q4]
  · rw [c3 1 (by decide), sI_wIk _ _ _ _ q6, sI_wIk _ _ _ _ q5, sI_wIk _ _ _ _ q1, b3 1 (by decide), a3 1 (by decide)]
  · refine ⟨fun w hw => ⟨?_, ?_⟩, fun p hp => ?_, ?_, ?_, ?_⟩
    · rw [c3 9 (by decide), w1 9 (by decide), b4, if_pos (by omega), a3 16 (by decide)]; exact h2 w hw
    · rw [c4, if_pos (by omega), z1 w (by omega)]; rfl
    · rw [c3 4 (by decide), w1 4 (by decide), b3 4 (by decide), a4, if_pos (by omega)]; exact h1 p hp
    · rw [c3 1 (by decide), sI_wIs, z3]; rfl
    · rw [c3 1 (by decide), sI_wIk _ _ _ _ (by decide), sI_wIk _ _ _ _ (by decide), sI_wIs, e17]
    · rw [c3 1 (by decide), sI_wIk _ _ _ _ (by decide), sI_wIs, z5]; rfl
/-- whether the logs of an hour are so -/
def lgB (W : Wd) (S : Row2) (k : Nat) : Nat → Nat → Nat
  | _, 0 => 1
  | i, j + 1 => if wG W 0 i = k ∧ S 0 (wG W 1 i) ≠ wG W 2 i then 0 else lgB W S k (i + 1) j
theorem lgB_01 (W : Wd) (S : Row2) (k : Nat) : ∀ (j i : Nat), lgB W S k i j = 0 ∨ lgB W S k i j = 1
  | 0, _ => Or.inr rfl
  | j + 1, i => by
    unfold lgB
    split
    · exact Or.inl rfl
    · exact lgB_01 W S k j (i + 1)
theorem lgB_none (W : Wd) (S : Row2) (k : Nat) : ∀ (j i : Nat), (∀ q, i ≤ q → q < i + j → wG W 0 q ≠ k) → lgB W S k i j = 1
  | 0, _, _ => rfl
  | j + 1, i, h => by
    unfold lgB
    rw [if_neg (fun q => h i (by omega) (by omega) q.1)]
    exact lgB_none W S k j (i + 1) (fun q q1 q2 => h q (by omega) (by omega))
theorem x_agrees {σ : MS} {W : Wd} {S : Row2} {P N k : Nat} (hS : SX 46 σ S) (h8 : sI σ 22 8 = nI (wc W 6)) (h10 : wc W 6 ≤ 10) (hg : ∀ i, i < wc W 6 → sI σ 40 i = nI (wG W 0 i) ∧ sI σ 41 i = nI (wG W 1 i) ∧ sI σ 42 i = hI (wG W 2 i)) (hb : ∀ i, i < wc W 6 → wG W 0 i ≤ 60 ∧ wG W 1 i < N ∧ wG W 2 i ≤ P) (hN : N ≤ 6) (hP : P ≤ 4) (hs : ∀ w, w < 6 → S 0 w < 2 ^ 31) (hk : k < 1000) : ∀ (j i n : Nat), i + j = wc W 6 → j < n → b_X10_agrees_2 46 n (nI k) (nI i) σ = some (nI (lgB W S k i j))
  | 0, i, n + 1, hi, _ => by
    unfold b_X10_agrees_2
    rw [h8, q_le (by omega) (by omega), if_pos (by omega)]; rfl
  | j + 1, i, n + 1, hi, hj => by
    obtain ⟨g1, g2, g3⟩ := hg i (by omega)
    obtain ⟨b1, b2, b3⟩ := hb i (by omega)
    have ih := x_agrees hS h8 h10 hg hb hN hP hs hk j (i + 1) n (by omega) (by omega)
    have eS : sI σ (46 + 1) (wG W 1 i) = hI (S 0 (wG W 1 i)) := (hS.1 _ (by omega)).1
    have hsx := hs (wG W 1 i) (by omega)
    have bi : inb (nI i) 10 := in_n (by omega) (by decide)
    unfold b_X10_agrees_2 b_X10_agrees_42 lgB
    rw [h8, q_le (by omega) (by omega), if_neg (by omega), chk_t bi, ix_n (n := i) (by omega), g1, q_eq (by omega) (by omega), chk_t bi, g2, chk_t (in_n (show wG W 1 i < 6 by omega) (by decide)), chk_t bi, ix_n (n := wG W 1 i) (by omega), eS, g3, nI_1, ih, ite_iff (j := Nat.decEq _ _) (hI_inj hsx (show wG W 2 i < 2 ^ 31 by omega))]
    by_cases q : wG W 0 i = k
    · rw [if_pos q]
      by_cases q2 : S 0 (wG W 1 i) = wG W 2 i
      · rw [if_pos q2, if_neg (fun z => z.2 q2)]
      · rw [if_neg q2, if_pos ⟨q, q2⟩]; rfl
    · rw [if_neg q, if_neg (fun z => q z.1)]
  | _, _, 0, _, hn => absurd hn (Nat.not_lt_zero _)
theorem m_agrees {σ : MS} {W : Wd} {S : Row2} {P N k : Nat} (k17 : Int32 → Int32 → Int32 → MS → Option (Int32 × MS)) {y2 : Int32} (hS : SM σ P N S) (h8 : sI σ 1 7 = nI (wc W 6)) (h10 : wc W 6 ≤ 10) (hg : ∀ i, i < wc W 6 → sI σ 12 i = nI (wG W 0 i) ∧ sI σ 13 i = nI (wG W 1 i) ∧ sI σ 14 i = hI (wG W 2 i)) (hb : ∀ i, i < wc W 6 → wG W 0 i ≤ 60 ∧ wG W 1 i < N ∧ wG W 2 i ≤ P) (hN : N ≤ 6) (hP : P ≤ 4) (hs : ∀ w, w < 6 → S 0 w < 2 ^ 31) (hk : k < 1000) : ∀ (j i n a : Nat), i + j = wc W 6 → j < n → a ≤ 1 → b_X12_couldRule_32 k17 n y2 (nI a) (nI k) (nI i) σ = (if nI k = y2 then (f_X12_copies 9 6 43 6 σ).bind (fun r18 => k17 y2 (nI (if a = 0 then 0 else lgB W S k i j)) (nI (k + 1)) r18) else k17 y2 (nI (if a = 0 then 0 else lgB W S k i j)) (nI (k + 1)) σ)
  | 0, i, n + 1, a, hi, _, ha => by
    have e : (if a = 0 then 0 else lgB W S k i 0) = a := by
      unfold lgB
      split <;> omega
    unfold b_X12_couldRule_32 b_X12_couldRule_111
    rw [h8, q_le (by omega) (by omega), if_pos (by omega), nI_1, e]
  | j + 1, i, n + 1, a, hi, hj, ha => by
    obtain ⟨g1, g2, g3⟩ := hg i (by omega)
    obtain ⟨b1, b2, b3⟩ := hb i (by omega)
    have ih0 := m_agrees k17 (y2 := y2) hS h8 h10 hg hb hN hP hs hk j (i + 1) n 0 (by omega) (by omega) (by omega)
    have ih1 := m_agrees k17 (y2 := y2) hS h8 h10 hg hb hN hP hs hk j (i + 1) n 1 (by omega) (by omega) (by omega)
    rw [if_pos rfl] at ih0
    rw [if_neg (show ¬ (1 : Nat) = 0 by decide)] at ih1
    have ih0' : b_X12_couldRule_32 k17 n y2 0 (nI k) (nI (i + 1)) σ = _ := ih0
    have ih1' : b_X12_couldRule_32 k17 n y2 1 (nI k) (nI (i + 1)) σ = _ := ih1
    have eS : sI σ 9 (wG W 1 i) = hI (S 0 (wG W 1 i)) := (hS.1 _ b2).1
    have hsx := hs (wG W 1 i) (by omega)
    have bi : inb (nI i) 10 := in_n (by omega) (by decide)
    have e : lgB W S k i (j + 1) = if wG W 0 i = k ∧ S 0 (wG W 1 i) ≠ wG W 2 i then 0 else lgB W S k (i + 1) j := rfl
    conv => lhs; unfold b_X12_couldRule_32 b_X12_couldRule_82 b_X12_couldRule_86 b_X12_couldRule_87
    rw [h8, q_le (by omega) (by omega), if_neg (by omega), q_zero (by omega), chk_t bi, ix_n (n := i) (by omega), g1, q_eq (by omega) (by omega), chk_t bi, g2, chk_t (in_n (show wG W 1 i < 6 by omega) (by decide)), chk_t bi, ix_n (n := wG W 1 i) (by omega), eS, g3, nI_1, ih0', ih1', ite_iff (j := Nat.decEq _ _) (hI_inj hsx (show wG W 2 i < 2 ^ 31 by omega))]
    by_cases ha0 : a = 0
    · rw [if_pos ha0, if_pos ha0]
    · rw [if_neg ha0, if_neg ha0]
      by_cases q : wG W 0 i = k
      · rw [if_pos q]
        by_cases q2 : S 0 (wG W 1 i) = wG W 2 i
        · rw [if_neg (fun z => z.2 q2)] at e
          rw [if_pos q2, e]
        · rw [if_pos ⟨q, q2⟩] at e
          rw [if_neg q2, e]
      · rw [if_neg (fun z => q z.1)] at e
        rw [if_neg q, e]
  | _, _, 0, _, _, hn, _ => absurd hn (Nat.not_lt_zero _)
theorem x_lastLog {σ : MS} {W : Wd} (h8 : sI σ 22 8 = nI (wc W 6)) (h10 : wc W 6 ≤ 10) (hg : ∀ i, i < wc W 6 → sI σ 40 i = nI (wG W 0 i)) (hb : ∀ i, i < wc W 6 → wG W 0 i ≤ 60) : ∀ (j i n m : Nat), i + j = wc W 6 → j < n → m ≤ 60 → (∀ q, q < i → wG W 0 q ≤ m) → ∃ m', b_X10_lastLog_4 n (nI m) (nI i) σ = some (nI m') ∧ m' ≤ 60 ∧ ∀ q, q < wc W 6 → wG W 0 q ≤ m'
  | 0, i, n + 1, m, hi, _, hm, hq => by
    refine ⟨m, ?_, hm, fun q h => hq q (by omega)⟩
    unfold b_X10_lastLog_4
    rw [h8, q_le (by omega) (by omega), if_pos (by omega)]
  | j + 1, i, n + 1, m, hi, hj, hm, hq => by
    have hbi := hb i (by omega)
    obtain ⟨m', g1, g2, g3⟩ := x_lastLog h8 h10 hg hb j (i + 1) n (max m (wG W 0 i)) (by omega) (by omega) (by omega) (fun q h => by
      by_cases e : q = i
      · subst e; omega
      · have := hq q (by omega); omega)
    refine ⟨m', ?_, g2, g3⟩
    unfold b_X10_lastLog_4
    rw [h8, q_le (by omega) (by omega), if_neg (by omega), chk_t (in_n (show i < 10 by omega) (by decide)), ix_n (by omega), hg i (by omega), x_max (by omega) (by omega), bnd, nI_1]
    exact g1
  | _, _, 0, _, _, hn, _, _ => absurd hn (Nat.not_lt_zero _)
end
