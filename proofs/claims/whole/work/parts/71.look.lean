/-! ===== pure: look ===== -/
section
theorem b7_or : ∀ k, k < 7 → ∀ m, m < 2 ^ k → (nI m ||| ((1 : Int32) <<< (nI k &&& 31))) = nI (m + 2 ^ k) := by decide +kernel
theorem b7_get : ∀ s, s < 128 → ∀ w, w < 7 → ((nI s >>> (nI w &&& 31)) &&& (1 : Int32)) = nI (bt s w) := by decide +kernel
theorem b7_or_bt : ∀ k, k < 7 → ∀ m, m < 2 ^ k → ∀ i, i < 7 → bt (m + 2 ^ k) i = if i = k then 1 else bt m i := by decide +kernel
theorem msk7_bt (p : Nat → Bool) : ∀ k, k ≤ 7 → ∀ i, i < 7 → bt (msk p k) i = if i < k ∧ p i = true then 1 else 0
  | 0, _, i, hi => by simp [msk, sumU, bt]
  | k + 1, hk, i, hi => by
    have ih := msk7_bt p k (by omega) i hi
    rw [msk_s]
    by_cases hp : p k = true
    · rw [if_pos hp, b7_or_bt k (by omega) _ (msk_lt p k) i hi, ih]
      by_cases h : i = k
      · subst h; simp [hp]
      · have h2 : (i < k + 1) ↔ i < k := by omega
        simp only [h, if_false, h2]
    · rw [if_neg hp, Nat.add_zero, ih]
      by_cases h : i = k
      · subst h; simp [hp]
      · have h2 : (i < k + 1) ↔ i < k := by omega
        simp only [h2]
theorem nh_add (a h : Nat) : nI a + hI h + 1 = nI (a + h) := by
  rw [Int32.add_assoc, hI_1, hI_s, nI_add]
/-- the greatest along a row -/
def mxU (f : Nat → Nat) : Nat → Nat → Nat → Nat
  | _, 0, a => a
  | k, j + 1, a => mxU f (k + 1) j (max a (f k))
theorem mxU_split {f : Nat → Nat} (m : Nat) : ∀ (j k a : Nat), mxU f k (j + m) a = mxU f (k + j) m (mxU f k j a)
  | 0, k, a => by simp [mxU]
  | j + 1, k, a => by
    rw [show j + 1 + m = (j + m) + 1 by omega]
    show mxU f (k + 1) (j + m) (max a (f k)) = mxU f (k + (j + 1)) m (mxU f (k + 1) j (max a (f k)))
    rw [mxU_split m j (k + 1), show k + 1 + j = k + (j + 1) by omega]
theorem mxU_zero {f : Nat → Nat} : ∀ (j k a : Nat), (∀ i, k ≤ i → i < k + j → f i = 0) → mxU f k j a = a
  | 0, _, _, _ => rfl
  | j + 1, k, a, h => by
    unfold mxU
    rw [h k (by omega) (by omega), Nat.max_zero]
    exact mxU_zero j (k + 1) a (fun i q1 q2 => h i (by omega) (by omega))
theorem mxU_le {f : Nat → Nat} (c : Nat) : ∀ (j k a : Nat), a ≤ c → (∀ i, k ≤ i → i < k + j → f i ≤ c) → mxU f k j a ≤ c
  | 0, _, _, h, _ => h
  | j + 1, k, a, h, hf => mxU_le c j (k + 1) (max a (f k)) (by have := hf k (by omega) (by omega); omega) (fun i q1 q2 => hf i (by omega) (by omega))
/-- how many of the first n fit and had that holder -/
def cAf (F : Nat → Bool) (Hf : Nat → Nat → Nat) (w i q : Nat) : Nat := if F q = true ∧ Hf q w = i then 1 else 0
def cA (F : Nat → Bool) (Hf : Nat → Nat → Nat) (w i n : Nat) : Nat := sumU (cAf F Hf w i) 0 n
theorem cA_s (F : Nat → Bool) (Hf : Nat → Nat → Nat) (w i n : Nat) : cA F Hf w i (n + 1) = cA F Hf w i n + (if F n = true ∧ Hf n w = i then 1 else 0) := by
  unfold cA
  rw [sumU_last, Nat.zero_add]; rfl
theorem cA_le (F : Nat → Bool) (Hf : Nat → Nat → Nat) (w i n : Nat) : cA F Hf w i n ≤ n := by
  have := sumU_le (f := cAf F Hf w i) 1 n 0 (fun q _ _ => by unfold cAf; split <;> omega)
  unfold cA
  omega
theorem cA_cong {F F' : Nat → Bool} {Hf Hf' : Nat → Nat → Nat} {w i n : Nat} (h : ∀ q, q < n → F q = F' q ∧ Hf q = Hf' q) : cA F Hf w i n = cA F' Hf' w i n := by
  unfold cA
  exact sumU_cong n 0 (fun q _ h2 => by
    unfold cAf
    rw [(h q (by omega)).1, (h q (by omega)).2])
/-! the class: most alike -/
theorem x_alike_in {σ : MS} {F : Nat → Bool} {Hf : Nat → Nat → Nat} {n w i P : Nat} (hn : n ≤ 6) (hw : w < 6) (h11 : sI σ 0 11 = nI n) (hi : i < 100) (hP : P < 100) (hs : ∀ q, q < n + 1 → F q = true → sI σ 55 (q * 6 + w) = hI (Hf q w) ∧ Hf q w ≤ P) (k5 : Int32 → Int32 → Int32 → Int32 → MS → Option Int32) {y3 : Nat} (hy3 : y3 < 100) : ∀ (j q f c : Nat), q + j = n + 1 → j < f → c ≤ q → b_X11_mostAlike_26 k5 f (nI (msk F (n + 1))) (nI w) (nI y3) (hI i) (nI c) (nI q) σ = k5 (nI (msk F (n + 1))) (nI w) (nI (max y3 (c + sumU (cAf F Hf w i) q j))) (hI (i + 1)) σ
  | 0, q, f + 1, c, hq, _, hc => by
    unfold b_X11_mostAlike_26 sumU
    rw [h11, q_lt (by omega) (by omega), if_pos (by omega), x_max (by omega) (by omega), bnd, hI_1]; rfl
  | j + 1, q, f + 1, c, hq, hf, hc => by
    have hm : msk F (n + 1) < 128 := Nat.lt_of_lt_of_le (msk_lt F (n + 1)) (Nat.pow_le_pow_right (n := 2) (by decide) (show n + 1 ≤ 7 by omega))
    have hb := msk7_bt F (n + 1) (by omega) q (by omega)
    have e : sumU (cAf F Hf w i) q (j + 1) = cAf F Hf w i q + sumU (cAf F Hf w i) (q + 1) j := rfl
    have e2 : cAf F Hf w i q = if F q = true ∧ Hf q w = i then 1 else 0 := rfl
    have ih0 := x_alike_in hn hw h11 hi hP hs k5 hy3 j (q + 1) f c (by omega) (by omega) (by omega)
    have ih1 := x_alike_in hn hw h11 hi hP hs k5 hy3 j (q + 1) f (c + 1) (by omega) (by omega) (by omega)
    conv => lhs; unfold b_X11_mostAlike_26 b_X11_mostAlike_49 b_X11_mostAlike_76
    rw [h11, q_lt (by omega) (by omega), if_neg (by omega), b7_get _ hm q (by omega), nI_1, nI_1, ih0, ih1, e]
    by_cases hF : F q = true
    · obtain ⟨s1, s2⟩ := hs q (by omega) hF
      rw [if_pos ⟨by omega, hF⟩] at hb
      rw [hb, if_neg (show ¬ nI 1 = 0 by decide), if_neg one_ne, nl_mul, nI_add, chk_t (in_n (show q * 6 + w < 42 by omega) (by decide)), ix_n (by omega), s1, ite_iff (j := Nat.decEq _ _) (hI_inj (show Hf q w < 2 ^ 31 by omega) (show i < 2 ^ 31 by omega))]
      by_cases hh : Hf q w = i
      · rw [if_pos ⟨hF, hh⟩] at e2
        rw [if_pos hh, e2, Nat.add_assoc]
      · rw [if_neg (fun z => hh z.2)] at e2
        rw [if_neg hh, e2, Nat.zero_add]
    · rw [if_neg (fun z => hF z.1)] at e2
      rw [if_neg (fun z => hF z.2)] at hb
      rw [hb, if_pos (show nI 0 = 0 from rfl), if_pos (show (0 : Int32) = 0 from rfl), e2, Nat.zero_add]
  | _, _, 0, _, _, hn, _ => absurd hn (Nat.not_lt_zero _)
theorem x_alike {σ : MS} {F : Nat → Bool} {Hf : Nat → Nat → Nat} {n w P : Nat} (hn : n ≤ 6) (hw : w < 6) (h11 : sI σ 0 11 = nI n) (hP : P ≤ 4) (h23 : sI σ 23 3 = nI P) (hs : ∀ q, q < n + 1 → F q = true → sI σ 55 (q * 6 + w) = hI (Hf q w) ∧ Hf q w ≤ P) : ∀ (j i f a : Nat), i + j = P + 1 → j < f → a ≤ 7 → b_X11_mostAlike_5 f (nI (msk F (n + 1))) (nI w) (nI a) (hI i) σ = some (nI (mxU (fun i => cA F Hf w i (n + 1)) i j a))
  | 0, i, f + 1, a, hi, _, ha => by
    unfold b_X11_mostAlike_5
    rw [h23, if_pos ((nh_le (by omega) (by omega)).mpr (by omega))]; rfl
  | j + 1, i, f + 1, a, hi, hf, ha => by
    have hF := FU_big
    have e := x_alike_in hn hw h11 (i := i) (by omega) (P := P) (by omega) hs (b_X11_mostAlike_5 f) (y3 := a) (by omega) (n + 1) 0 FU 0 (by omega) (by omega) (by omega)
    rw [Nat.zero_add] at e
    have hle := cA_le F Hf w i (n + 1)
    have e' : b_X11_mostAlike_26 (b_X11_mostAlike_5 f) FU (nI (msk F (n + 1))) (nI w) (nI a) (hI i) 0 0 σ = b_X11_mostAlike_5 f (nI (msk F (n + 1))) (nI w) (nI (max a (cA F Hf w i (n + 1)))) (hI (i + 1)) σ := e
    conv => lhs; unfold b_X11_mostAlike_5
    rw [h23, if_neg (fun z => by have := (nh_le (by omega) (by omega)).mp z; omega), e']
    exact x_alike hn hw h11 hP h23 hs j (i + 1) f (max a (cA F Hf w i (n + 1))) (by omega) (by omega) (by omega)
  | _, _, 0, _, _, hn, _ => absurd hn (Nat.not_lt_zero _)
/-! the reference: its table -/
theorem m_tab {N P : Nat} (hN : N ≤ 6) (hP : P ≤ 4) {H : Nat → Nat} (hH : ∀ w, w < N → H w ≤ P) (k64 : Int32 → Int32 → Int32 → Int32 → MS → Option (Int32 × MS)) {y1 y2 y3 y4 : Int32} : ∀ (j w f : Nat) (σ : MS) (A : Nat → Nat → Nat), w + j = N → j < f → sI σ 1 4 = nI N → (∀ v, v < N → sI σ 43 v = hI (H v)) → (∀ v i, v < N → i < 5 → sI σ 44 (5 * v + i) = nI (A v i)) → ∃ σ', b_X12_look_89 k64 f y1 y2 y3 y4 (nI w) σ = k64 y1 y2 y3 (y4 + 1) σ' ∧ Sm σ σ' ∧ (∀ b, b ≠ 44 → sI σ' b = sI σ b) ∧ (∀ v i, v < N → i < 5 → sI σ' 44 (5 * v + i) = nI (A v i + if w ≤ v ∧ H v = i then 1 else 0))
  | 0, w, f + 1, σ, A, hw, _, h4, h43, h44 => by
    refine ⟨σ, ?_, Sm.refl _, fun _ _ => rfl, fun v i hv hi => by rw [h44 v i hv hi, if_neg (by omega)]; rfl⟩
    unfold b_X12_look_89 b_X12_look_129
    rw [h4, q_le (by omega) (by omega), if_pos (by omega)]
  | j + 1, w, f + 1, σ, A, hw, hf, h4, h43, h44 => by
    have hHw := hH w (by omega)
    have e44 := h44 w (H w) (by omega) (by omega)
    have eidx : (5 : Int32) * nI w + hI (H w) + 1 = nI (5 * w + H w) := by rw [ln_mul, nh_add]
    have hn : ∀ b, b ≠ 44 → sI (wI σ 44 (5 * w + H w) (nI (A w (H w) + 1))) b = sI σ b := fun b hb => sI_wIn _ _ _ _ hb
    obtain ⟨σ', g1, g2, g3, g4⟩ := m_tab hN hP hH k64 (y1 := y1) (y2 := y2) (y3 := y3) (y4 := y4) j (w + 1) f (wI σ 44 (5 * w + H w) (nI (A w (H w) + 1))) (fun v i => if v = w ∧ i = H w then A v i + 1 else A v i) (by omega) (by omega) (by rw [hn 1 (by decide)]; exact h4) (by rw [hn 43 (by decide)]; exact h43) (fun v i hv hi => by
      by_cases e : v = w ∧ i = H w
      · obtain ⟨rfl, rfl⟩ := e
        rw [sI_wIs, if_pos ⟨rfl, rfl⟩]
      · rw [sI_wIk _ _ _ _ (by omega), if_neg e]; exact h44 v i hv hi)
    refine ⟨σ', ?_, ⟨g2.1, g2.2.1, g2.2.2⟩, fun b hb => by rw [g3 b hb, hn b hb], fun v i hv hi => ?_⟩
    · unfold b_X12_look_89 b_X12_look_123
      rw [h4, q_le (by omega) (by omega), if_neg (by omega), chk_t (in_n (show w < 6 by omega) (by decide)), ix_n (by omega), h43 w (by omega), eidx, chk_t (in_n (show 5 * w + H w < 30 by omega) (by decide)), chk_t (in_n (show 5 * w + H w < 30 by omega) (by decide)), ix_n (by omega), e44, nI_1, nI_1]
      exact g1
    · rw [g4 v i hv hi]
      by_cases e : v = w
      · subst e
        by_cases e2 : H v = i
        · subst e2
          rw [if_pos ⟨rfl, rfl⟩, if_neg (by omega), if_pos ⟨Nat.le_refl _, rfl⟩]
        · rw [if_neg (fun z => e2 z.2.symm), if_neg (fun z => e2 z.2), if_neg (fun z => e2 z.2)]
      · rw [if_neg (fun z => e z.1)]
        by_cases q : w + 1 ≤ v ∧ H v = i
        · rw [if_pos q, if_pos ⟨by omega, q.2⟩]
        · rw [if_neg q, if_neg (fun z => q ⟨by omega, z.2⟩)]
  | _, _, 0, _, _, _, hn, _, _, _ => absurd hn (Nat.not_lt_zero _)
end
