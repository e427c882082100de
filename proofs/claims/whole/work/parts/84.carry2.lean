/-! ===== pure: the reference's images, whole ===== -/
section
def cRs : List (Nat × Nat) → MS → Option MS
  | [], σ => some σ
  | q :: l, σ => (f_X12_carryRow q.1 q.2 σ).bind (cRs l)
def totL : List (Nat × Nat) → Nat
  | [] => 0
  | q :: l => q.2 + totL l
theorem cRs_cons {q : Nat × Nat} {l : List (Nat × Nat)} {σ σ' : MS} (h : cRs (q :: l) σ = some σ') : ∃ τ, f_X12_carryRow q.1 q.2 σ = some τ ∧ cRs l τ = some σ' := by
  unfold cRs at h
  cases e : f_X12_carryRow q.1 q.2 σ with
  | none => rw [e] at h; cases h
  | some τ => rw [e] at h; exact ⟨τ, rfl, h⟩
theorem cRs_nil {σ σ' : MS} (h : cRs [] σ = some σ') : σ = σ' := by
  unfold cRs at h
  injection h
theorem keeps : ∀ (l : List (Nat × Nat)) (i : Nat) (σ : MS), (∀ q ∈ l, q.1 ≠ 0 ∧ q.1 ≠ 45 ∧ q.2 ≤ 400) → i + totL l ≤ 2750 → sI σ 0 62 = nI i → sI σ 0 63 = 0 →
    ∃ σ', cRs l σ = some σ' ∧ Sm σ σ' ∧ sI σ' 0 62 = nI (i + totL l) ∧ (∀ j, j ≠ 62 → sI σ' 0 j = sI σ 0 j) ∧ (∀ b, b ≠ 0 → b ≠ 45 → sI σ' b = sI σ b) ∧ (∀ j, j < i ∨ i + totL l ≤ j → sI σ' 45 j = sI σ 45 j) ∧ (∀ m a n, l[m]? = some (a, n) → ∀ j, j < n → sI σ' 45 (i + totL (l.take m) + j) = sI σ a j)
  | [], i, σ, _, _, h1, _ => ⟨σ, rfl, Sm.refl σ, h1, fun _ _ => rfl, fun _ _ _ => rfl, fun _ _ => rfl, fun m a n h => by simp at h⟩
  | q :: l, i, σ, hq, hi, h1, h2 => by
    have e : totL (q :: l) = q.2 + totL l := rfl
    rw [e] at hi ⊢
    obtain ⟨k1, k2, k3⟩ := hq q (List.mem_cons_self)
    obtain ⟨σ1, a1, a2, a3, a4, a5, a6⟩ := m_keep (σ := σ) k1 k2 (show i + q.2 ≤ 2750 by omega) k3 h1 h2
    obtain ⟨σ2, b1, b2, b3, b4, b5, b6, b7⟩ := keeps l (i + q.2) σ1 (fun r hr => hq r (List.mem_cons_of_mem _ hr)) (by omega) a3 (by rw [a4 63 (by decide)]; exact h2)
    refine ⟨σ2, ?_, a2.trans b2, by rw [b3, Nat.add_assoc], fun j hj => (b4 j hj).trans (a4 j hj), fun b q1 q2 => (b5 b q1 q2).trans (a5 b q1 q2), fun j hj => ?_, fun m a n hm j hj => ?_⟩
    · unfold cRs; rw [a1, bnd]; exact b1
    · rw [b6 j (by omega), a6 j, if_neg (by omega)]
    · cases m with
      | zero =>
        have hm : q = (a, n) := by simpa using hm
        subst hm
        show sI σ2 45 (i + 0 + j) = sI σ a j
        rw [b6 _ (Or.inl (by show i + 0 + j < i + n; omega)), a6, if_pos ⟨by omega, by show i + 0 + j < i + n; omega⟩]
        congr 1; omega
      | succ m =>
        have hm : l[m]? = some (a, n) := by simpa using hm
        have := b7 m a n hm j hj
        have hne := hq (a, n) (List.mem_cons_of_mem _ (List.mem_of_getElem? hm))
        rw [a5 a hne.1 hne.2.1] at this
        rw [← this]
        show sI σ2 45 (i + (q.2 + totL (l.take m)) + j) = _
        congr 1; omega
theorem backs : ∀ (l : List (Nat × Nat)) (i : Nat) (σ : MS), (∀ q ∈ l, q.1 ≠ 0 ∧ q.1 ≠ 45 ∧ q.2 ≤ 400) → (l.map (fun q => q.1)).Nodup → i + totL l ≤ 2750 → sI σ 0 62 = nI i → sI σ 0 63 = 1 →
    ∃ σ', cRs l σ = some σ' ∧ Sm σ σ' ∧ sI σ' 0 62 = nI (i + totL l) ∧ (∀ j, j ≠ 62 → sI σ' 0 j = sI σ 0 j) ∧ (∀ b, b ≠ 0 → ¬ b ∈ l.map (fun q => q.1) → sI σ' b = sI σ b) ∧ (∀ m a n, l[m]? = some (a, n) → ∀ j, j < n → sI σ' a j = sI σ 45 (i + totL (l.take m) + j))
  | [], i, σ, _, _, _, h1, _ => ⟨σ, rfl, Sm.refl σ, h1, fun _ _ => rfl, fun _ _ _ => rfl, fun m a n h => by simp at h⟩
  | q :: l, i, σ, hq, hd, hi, h1, h2 => by
    have e : totL (q :: l) = q.2 + totL l := rfl
    rw [e] at hi ⊢
    rw [List.map_cons, List.nodup_cons] at hd
    obtain ⟨k1, k2, k3⟩ := hq q (List.mem_cons_self)
    obtain ⟨σ1, a1, a2, a3, a4, a5, a6⟩ := m_backR (σ := σ) k1 k2 (show i + q.2 ≤ 2750 by omega) k3 h1 h2
    obtain ⟨σ2, b1, b2, b3, b4, b5, b6⟩ := backs l (i + q.2) σ1 (fun r hr => hq r (List.mem_cons_of_mem _ hr)) hd.2 (by omega) a3 (by rw [a4 63 (by decide)]; exact h2)
    refine ⟨σ2, ?_, a2.trans b2, by rw [b3, Nat.add_assoc], fun j hj => (b4 j hj).trans (a4 j hj), fun b q1 q2 => ?_, fun m a n hm j hj => ?_⟩
    · unfold cRs; rw [a1, bnd]; exact b1
    · rw [List.map_cons, List.mem_cons, not_or] at q2
      rw [b5 b q1 q2.2, a5 b q1 q2.1]
    · cases m with
      | zero =>
        have hm : q = (a, n) := by simpa using hm
        subst hm
        show sI σ2 a j = sI σ 45 (i + 0 + j)
        rw [b5 a k1 hd.1, a6, if_pos hj]
        congr 1
      | succ m =>
        have hm : l[m]? = some (a, n) := by simpa using hm
        rw [b6 m a n hm j hj, a5 45 (by decide) (fun z => k2 z.symm)]
        show sI σ 45 (i + q.2 + totL (l.take m) + j) = sI σ 45 (i + (q.2 + totL (l.take m)) + j)
        congr 1; omega
def rowsA : List (Nat × Nat) := [(1, 10), (4, 4), (9, 6), (10, 6)]
def rowsB : List (Nat × Nat) := [(39, 1)]
def rowsC : List (Nat × Nat) := [(2, 5), (3, 5), (5, 4), (6, 4), (7, 4), (8, 6), (11, 6), (12, 10), (13, 10), (14, 10), (15, 4), (16, 6), (17, 1), (38, 380)]
/-- the three runs of rows make all -/
theorem carries_of {k : Nat} {x : Int32} {σ σ1 σ2 σ3 : MS} (hk : k < 4) (hx : x = 0 ∨ x = 1) (hA : cRs rowsA (wI (wI σ 0 62 (nI (550 * k))) 0 63 x) = some σ1) (hB : cRs rowsB (wI σ1 39 0 (sI σ1 0 51)) = some σ2) (hC : cRs rowsC (wI σ2 0 51 (sI σ2 39 0)) = some σ3) : f_X12_carriesAll (nI k) x σ = some σ3 := by
  unfold rowsA at hA
  unfold rowsB at hB
  unfold rowsC at hC
  obtain ⟨t1, a1, hA⟩ := cRs_cons hA
  obtain ⟨t2, a2, hA⟩ := cRs_cons hA
  obtain ⟨t3, a3, hA⟩ := cRs_cons hA
  obtain ⟨t4, a4, hA⟩ := cRs_cons hA
  have hA := cRs_nil hA
  subst hA
  obtain ⟨t5, a5, hB⟩ := cRs_cons hB
  have hB := cRs_nil hB
  subst hB
  obtain ⟨u1, b1, hC⟩ := cRs_cons hC
  obtain ⟨u2, b2, hC⟩ := cRs_cons hC
  obtain ⟨u3, b3, hC⟩ := cRs_cons hC
  obtain ⟨u4, b4, hC⟩ := cRs_cons hC
  obtain ⟨u5, b5, hC⟩ := cRs_cons hC
  obtain ⟨u6, b6, hC⟩ := cRs_cons hC
  obtain ⟨u7, b7, hC⟩ := cRs_cons hC
  obtain ⟨u8, b8, hC⟩ := cRs_cons hC
  obtain ⟨u9, b9, hC⟩ := cRs_cons hC
  obtain ⟨u10, b10, hC⟩ := cRs_cons hC
  obtain ⟨u11, b11, hC⟩ := cRs_cons hC
  obtain ⟨u12, b12, hC⟩ := cRs_cons hC
  obtain ⟨u13, b13, hC⟩ := cRs_cons hC
  obtain ⟨u14, b14, hC⟩ := cRs_cons hC
  have hC := cRs_nil hC
  subst hC
  unfold f_X12_carriesAll b_X12_carriesAll_0
  rw [chk_t hx, ln_mul, a1, bnd, a2, bnd, a3, bnd, a4, bnd, q_nl_eq (by decide) (by omega), if_neg (by omega), a5, bnd, b1, bnd, b2, bnd, b3, bnd, b4, bnd, b5, bnd, b6, bnd, b7, bnd, b8, bnd, b9, bnd, b10, bnd, b11, bnd, b12, bnd, b13, bnd, b14, bnd]
/-- an image is kept -/
theorem m_image {k : Nat} (σ : MS) (hk : k < 4) : ∃ σ', f_X12_carriesAll (nI k) 0 σ = some σ' ∧ (∀ j, j ≠ 62 → j ≠ 63 → sI σ' 0 j = sI σ 0 j) ∧ (∀ b, b ≠ 0 → b ≠ 45 → b ≠ 39 → sI σ' b = sI σ b) ∧ (∀ j, j < 550 * k ∨ 550 * k + 550 ≤ j → sI σ' 45 j = sI σ 45 j) ∧ sI σ' 45 (550 * k + 26) = sI σ 0 51 ∧ (∀ r, ((1 ≤ r ∧ r ≤ 17) ∨ r = 38) → ∀ j, (r = 1 → j < 10) → (r = 4 → j < 4) → ((r = 2 ∨ r = 3) → j < 5) → (((5 ≤ r ∧ r ≤ 7) ∨ r = 15) → j < 4) → (((8 ≤ r ∧ r ≤ 11) ∨ r = 16) → j < 6) → ((12 ≤ r ∧ r ≤ 14) → j < 10) → (r = 17 → j < 1) → (r = 38 → j < 380) → sI σ' 45 (550 * k + iof r + j) = sI σ r j) := by
  obtain ⟨σ0, h0⟩ : ∃ σ0, σ0 = wI (wI σ 0 62 (nI (550 * k))) 0 63 0 := ⟨_, rfl⟩
  have z52 : sI σ0 0 62 = nI (550 * k) := by rw [h0, sI_wIk _ _ _ _ (by decide), sI_wIs]
  have z53 : sI σ0 0 63 = 0 := by rw [h0, sI_wIs]
  have zk : ∀ j, j ≠ 62 → j ≠ 63 → sI σ0 0 j = sI σ 0 j := fun j q1 q2 => by rw [h0, sI_wIk _ _ _ _ q2, sI_wIk _ _ _ _ q1]
  have zn : ∀ b, b ≠ 0 → sI σ0 b = sI σ b := fun b hb => by rw [h0, sI_wIn _ _ _ _ hb, sI_wIn _ _ _ _ hb]
  have tA : totL rowsA = 26 := by decide
  have tB : totL rowsB = 1 := by decide
  have tC : totL rowsC = 455 := by decide
  obtain ⟨σ1, a1, a2, a3, a4, a5, a6, a7⟩ := keeps rowsA (550 * k) σ0 (by decide) (by rw [tA]; omega) z52 z53
  rw [tA] at a3 a6
  obtain ⟨σ2, b1, b2, b3, b4, b5, b6, b7⟩ := keeps rowsB (550 * k + 26) (wI σ1 39 0 (sI σ1 0 51)) (by decide) (by rw [tB]; omega) (by rw [sI_wIn _ _ _ _ (by decide)]; exact a3) (by rw [sI_wIn _ _ _ _ (by decide), a4 63 (by decide)]; exact z53)
  rw [tB] at b3 b6
  obtain ⟨σ3, c1, c2, c3, c4, c5, c6, c7⟩ := keeps rowsC (550 * k + 26 + 1) (wI σ2 0 51 (sI σ2 39 0)) (by decide) (by rw [tC]; omega) (by rw [sI_wIk _ _ _ _ (by decide)]; exact b3) (by rw [sI_wIk _ _ _ _ (by decide), b4 63 (by decide), sI_wIn _ _ _ _ (by decide), a4 63 (by decide)]; exact z53)
  rw [tC] at c6
  have e51 : sI σ2 39 0 = sI σ 0 51 := by rw [b5 39 (by decide) (by decide), sI_wIs, a4 51 (by decide), zk 51 (by decide) (by decide)]
  have r1 : ∀ b, b ≠ 0 → b ≠ 45 → sI σ1 b = sI σ b := fun b q1 q2 => by rw [a5 b q1 q2, zn b q1]
  have r2 : ∀ b, b ≠ 0 → b ≠ 45 → b ≠ 39 → sI (wI σ2 0 51 (sI σ2 39 0)) b = sI σ b := fun b q1 q2 q3 => by rw [sI_wIn _ _ _ _ q1, b5 b q1 q2, sI_wIn _ _ _ _ q3, r1 b q1 q2]
  have f45 : ∀ j, j < 550 * k + 27 → sI σ3 45 j = sI σ2 45 j := fun j hj => by rw [c6 j (Or.inl (by omega)), sI_wIn _ _ _ _ (by decide)]
  have g45 : ∀ j, j < 550 * k + 26 → sI σ3 45 j = sI σ1 45 j := fun j hj => by rw [f45 j (by omega), b6 j (Or.inl (by omega)), sI_wIn _ _ _ _ (by decide)]
  have hA : ∀ m a n, rowsA[m]? = some (a, n) → a ≠ 0 → a ≠ 45 → totL (rowsA.take m) + n ≤ 26 → ∀ j, j < n → sI σ3 45 (550 * k + totL (rowsA.take m) + j) = sI σ a j := fun m a n hm q1 q2 q3 j hj => by
    rw [g45 _ (by omega), a7 m a n hm j hj, zn a q1]
  have hC : ∀ m a n, rowsC[m]? = some (a, n) → a ≠ 0 → a ≠ 45 → a ≠ 39 → ∀ j, j < n → sI σ3 45 (550 * k + 26 + 1 + totL (rowsC.take m) + j) = sI σ a j := fun m a n hm q1 q2 q3 j hj => by
    rw [c7 m a n hm j hj, r2 a q1 q2 q3]
  refine ⟨σ3, carries_of hk (Or.inl rfl) (by rw [← h0]; exact a1) b1 c1, fun j q1 q2 => ?_, fun b q1 q2 q3 => by rw [c5 b q1 q2, r2 b q1 q2 q3], fun j hj => ?_, ?_, fun r hr j u1 u4 u2 u5 u8 u12 u17 u38 => ?_⟩
  · rw [c4 j q1]
    by_cases z : j = 51
    · subst z; rw [sI_wIs, e51]
    · rw [sI_wIk _ _ _ _ z, b4 j q1, sI_wIn _ _ _ _ (by decide), a4 j q1, zk j q1 q2]
  · rw [c6 j (by omega), sI_wIn _ _ _ _ (by decide), b6 j (by omega), sI_wIn _ _ _ _ (by decide), a6 j (by omega), zn 45 (by decide)]
  · rw [f45 _ (by omega)]
    have := b7 0 39 1 rfl 0 (by decide)
    rw [sI_wIs, a4 51 (by decide), zk 51 (by decide) (by decide)] at this
    exact this
  · rcases (by omega : r = 1 ∨ r = 2 ∨ r = 3 ∨ r = 4 ∨ r = 5 ∨ r = 6 ∨ r = 7 ∨ r = 8 ∨ r = 9 ∨ r = 10 ∨ r = 11 ∨ r = 12 ∨ r = 13 ∨ r = 14 ∨ r = 15 ∨ r = 16 ∨ r = 17 ∨ r = 38) with e | e | e | e | e | e | e | e | e | e | e | e | e | e | e | e | e | e <;> subst e
    · exact hA 0 1 10 rfl (by decide) (by decide) (by decide) j (u1 rfl)
    · exact hC 0 2 5 rfl (by decide) (by decide) (by decide) j (u2 (by decide))
    · exact hC 1 3 5 rfl (by decide) (by decide) (by decide) j (u2 (by decide))
    · exact hA 1 4 4 rfl (by decide) (by decide) (by decide) j (u4 rfl)
    · exact hC 2 5 4 rfl (by decide) (by decide) (by decide) j (u5 (by decide))
    · exact hC 3 6 4 rfl (by decide) (by decide) (by decide) j (u5 (by decide))
    · exact hC 4 7 4 rfl (by decide) (by decide) (by decide) j (u5 (by decide))
    · exact hC 5 8 6 rfl (by decide) (by decide) (by decide) j (u8 (by decide))
    · exact hA 2 9 6 rfl (by decide) (by decide) (by decide) j (u8 (by decide))
    · exact hA 3 10 6 rfl (by decide) (by decide) (by decide) j (u8 (by decide))
    · exact hC 6 11 6 rfl (by decide) (by decide) (by decide) j (u8 (by decide))
    · exact hC 7 12 10 rfl (by decide) (by decide) (by decide) j (u12 (by decide))
    · exact hC 8 13 10 rfl (by decide) (by decide) (by decide) j (u12 (by decide))
    · exact hC 9 14 10 rfl (by decide) (by decide) (by decide) j (u12 (by decide))
    · exact hC 10 15 4 rfl (by decide) (by decide) (by decide) j (u5 (by decide))
    · exact hC 11 16 6 rfl (by decide) (by decide) (by decide) j (u8 (by decide))
    · exact hC 12 17 1 rfl (by decide) (by decide) (by decide) j (u17 rfl)
    · exact hC 13 38 380 rfl (by decide) (by decide) (by decide) j (u38 rfl)
/-- an image is gone back to -/
theorem m_backI {k : Nat} (σ : MS) (hk : k < 4) : ∃ σ', f_X12_carriesAll (nI k) 1 σ = some σ' ∧ (∀ j, j ≠ 62 → j ≠ 63 → j ≠ 51 → sI σ' 0 j = sI σ 0 j) ∧ (∀ b, ((18 ≤ b ∧ b ≤ 37) ∨ 40 ≤ b) → sI σ' b = sI σ b) ∧ sI σ' 0 51 = sI σ 45 (550 * k + 26) ∧ (∀ r, ((1 ≤ r ∧ r ≤ 17) ∨ r = 38) → ∀ j, (r = 1 → j < 10) → (r = 4 → j < 4) → ((r = 2 ∨ r = 3) → j < 5) → (((5 ≤ r ∧ r ≤ 7) ∨ r = 15) → j < 4) → (((8 ≤ r ∧ r ≤ 11) ∨ r = 16) → j < 6) → ((12 ≤ r ∧ r ≤ 14) → j < 10) → (r = 17 → j < 1) → (r = 38 → j < 380) → sI σ' r j = sI σ 45 (550 * k + iof r + j)) := by
  obtain ⟨σ0, h0⟩ : ∃ σ0, σ0 = wI (wI σ 0 62 (nI (550 * k))) 0 63 1 := ⟨_, rfl⟩
  have z52 : sI σ0 0 62 = nI (550 * k) := by rw [h0, sI_wIk _ _ _ _ (by decide), sI_wIs]
  have z53 : sI σ0 0 63 = 1 := by rw [h0, sI_wIs]
  have zk : ∀ j, j ≠ 62 → j ≠ 63 → sI σ0 0 j = sI σ 0 j := fun j q1 q2 => by rw [h0, sI_wIk _ _ _ _ q2, sI_wIk _ _ _ _ q1]
  have zn : ∀ b, b ≠ 0 → sI σ0 b = sI σ b := fun b hb => by rw [h0, sI_wIn _ _ _ _ hb, sI_wIn _ _ _ _ hb]
  have tA : totL rowsA = 26 := by decide
  have tB : totL rowsB = 1 := by decide
  have tC : totL rowsC = 455 := by decide
  obtain ⟨σ1, a1, a2, a3, a4, a5, a6⟩ := backs rowsA (550 * k) σ0 (by decide) (by decide) (by rw [tA]; omega) z52 z53
  rw [tA] at a3
  obtain ⟨σ2, b1, b2, b3, b4, b5, b6⟩ := backs rowsB (550 * k + 26) (wI σ1 39 0 (sI σ1 0 51)) (by decide) (by decide) (by rw [tB]; omega) (by rw [sI_wIn _ _ _ _ (by decide)]; exact a3) (by rw [sI_wIn _ _ _ _ (by decide), a4 63 (by decide)]; exact z53)
  rw [tB] at b3
  obtain ⟨σ3, c1, c2, c3, c4, c5, c6⟩ := backs rowsC (550 * k + 26 + 1) (wI σ2 0 51 (sI σ2 39 0)) (by decide) (by decide) (by rw [tC]; omega) (by rw [sI_wIk _ _ _ _ (by decide)]; exact b3) (by rw [sI_wIk _ _ _ _ (by decide), b4 63 (by decide), sI_wIn _ _ _ _ (by decide), a4 63 (by decide)]; exact z53)
  have mA : ∀ b, (b = 1 ∨ b = 4 ∨ b = 9 ∨ b = 10) ∨ ¬ b ∈ rowsA.map (fun q => q.1) := fun b => by
    by_cases h : b ∈ rowsA.map (fun q => q.1)
    · left
      simpa [rowsA] using h
    · exact Or.inr h
  have nA : ∀ b, b ≠ 1 → b ≠ 4 → b ≠ 9 → b ≠ 10 → ¬ b ∈ rowsA.map (fun q => q.1) := fun b q1 q2 q3 q4 => by
    rcases mA b with h | h
    · omega
    · exact h
  have nB : ∀ b, b ≠ 39 → ¬ b ∈ rowsB.map (fun q => q.1) := fun b q h => by
    have : b = 39 := by simpa [rowsB] using h
    exact q this
  have nC : ∀ b, ((b = 1 ∨ b = 4 ∨ b = 9 ∨ b = 10) ∨ (18 ≤ b ∧ b ≤ 37) ∨ 39 ≤ b) → ¬ b ∈ rowsC.map (fun q => q.1) := fun b q h => by
    have : b = 2 ∨ b = 3 ∨ b = 5 ∨ b = 6 ∨ b = 7 ∨ b = 8 ∨ b = 11 ∨ b = 12 ∨ b = 13 ∨ b = 14 ∨ b = 15 ∨ b = 16 ∨ b = 17 ∨ b = 38 := by simpa [rowsC] using h
    omega
  have e45a : sI σ1 45 = sI σ 45 := by rw [a5 45 (by decide) (nA 45 (by decide) (by decide) (by decide) (by decide)), zn 45 (by decide)]
  have e45b : sI (wI σ1 39 0 (sI σ1 0 51)) 45 = sI σ 45 := by rw [sI_wIn _ _ _ _ (by decide), e45a]
  have e45c : sI (wI σ2 0 51 (sI σ2 39 0)) 45 = sI σ 45 := by rw [sI_wIn _ _ _ _ (by decide), b5 45 (by decide) (nB 45 (by decide)), e45b]
  have hA : ∀ m a n, rowsA[m]? = some (a, n) → a ≠ 0 → a ≠ 39 → ¬ a ∈ rowsC.map (fun q => q.1) → ∀ j, j < n → sI σ3 a j = sI σ 45 (550 * k + totL (rowsA.take m) + j) := fun m a n hm q1 q2 q3 j hj => by
    rw [c5 a q1 q3, sI_wIn _ _ _ _ q1, b5 a q1 (nB a q2), sI_wIn _ _ _ _ q2, a6 m a n hm j hj, zn 45 (by decide)]
  have hC : ∀ m a n, rowsC[m]? = some (a, n) → ∀ j, j < n → sI σ3 a j = sI σ 45 (550 * k + 26 + 1 + totL (rowsC.take m) + j) := fun m a n hm j hj => by
    rw [c6 m a n hm j hj, e45c]
  refine ⟨σ3, carries_of hk (Or.inr rfl) (by rw [← h0]; exact a1) b1 c1, fun j q1 q2 q3 => ?_, fun b hb => ?_, ?_, fun r hr j u1 u4 u2 u5 u8 u12 u17 u38 => ?_⟩
  · rw [c4 j q1, sI_wIk _ _ _ _ q3, b4 j q1, sI_wIn _ _ _ _ (by decide), a4 j q1, zk j q1 q2]
  · rw [c5 b (by omega) (nC b (by omega)), sI_wIn _ _ _ _ (by omega), b5 b (by omega) (nB b (by omega)), sI_wIn _ _ _ _ (by omega), a5 b (by omega) (nA b (by omega) (by omega) (by omega) (by omega)), zn b (by omega)]
  · rw [c4 51 (by decide), sI_wIs]
    have := b6 0 39 1 rfl 0 (by decide)
    rw [e45b] at this
    exact this
  · rcases (by omega : r = 1 ∨ r = 2 ∨ r = 3 ∨ r = 4 ∨ r = 5 ∨ r = 6 ∨ r = 7 ∨ r = 8 ∨ r = 9 ∨ r = 10 ∨ r = 11 ∨ r = 12 ∨ r = 13 ∨ r = 14 ∨ r = 15 ∨ r = 16 ∨ r = 17 ∨ r = 38) with e | e | e | e | e | e | e | e | e | e | e | e | e | e | e | e | e | e <;> subst e
    · exact hA 0 1 10 rfl (by decide) (by decide) (nC 1 (by decide)) j (u1 rfl)
    · exact hC 0 2 5 rfl j (u2 (by decide))
    · exact hC 1 3 5 rfl j (u2 (by decide))
    · exact hA 1 4 4 rfl (by decide) (by decide) (nC 4 (by decide)) j (u4 rfl)
    · exact hC 2 5 4 rfl j (u5 (by decide))
    · exact hC 3 6 4 rfl j (u5 (by decide))
    · exact hC 4 7 4 rfl j (u5 (by decide))
    · exact hC 5 8 6 rfl j (u8 (by decide))
    · exact hA 2 9 6 rfl (by decide) (by decide) (nC 9 (by decide)) j (u8 (by decide))
    · exact hA 3 10 6 rfl (by decide) (by decide) (nC 10 (by decide)) j (u8 (by decide))
    · exact hC 6 11 6 rfl j (u8 (by decide))
    · exact hC 7 12 10 rfl j (u12 (by decide))
    · exact hC 8 13 10 rfl j (u12 (by decide))
    · exact hC 9 14 10 rfl j (u12 (by decide))
    · exact hC 10 15 4 rfl j (u5 (by decide))
    · exact hC 11 16 6 rfl j (u8 (by decide))
    · exact hC 12 17 1 rfl j (u17 rfl)
    · exact hC 13 38 380 rfl j (u38 rfl)
end
