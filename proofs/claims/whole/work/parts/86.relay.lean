/-! ===== pure: relay ===== -/
section
/-- fewest handings, if q held it till then; C: what lies ahead of each -/
def mnH (C : Nat → Nat) (q : Nat) : Nat → Nat
  | 0 => 1000
  | r + 1 => min (mnH C q r) (C r + if r = q then 0 else 1)
/-- who takes it: 0 nobody -/
def nxH (C : Nat → Nat) (q : Nat) : Nat → Nat
  | 0 => 0
  | r + 1 => if C r + (if r = q then 0 else 1) < mnH C q r then r + 1 else nxH C q r
theorem mnH_s (C : Nat → Nat) (q r : Nat) : mnH C q (r + 1) = min (mnH C q r) (C r + if r = q then 0 else 1) := rfl
theorem nxH_s (C : Nat → Nat) (q r : Nat) : nxH C q (r + 1) = if C r + (if r = q then 0 else 1) < mnH C q r then r + 1 else nxH C q r := rfl
theorem mnH_le (C : Nat → Nat) (q : Nat) : ∀ r, mnH C q r ≤ 1000
  | 0 => Nat.le_refl _
  | r + 1 => by rw [mnH_s]; exact Nat.le_trans (Nat.min_le_left _ _) (mnH_le C q r)
theorem nxH_ok (C : Nat → Nat) (q : Nat) : ∀ r, (mnH C q r = 1000 ∧ nxH C q r = 0) ∨ (mnH C q r < 1000 ∧ ∃ p, nxH C q r = p + 1 ∧ p < r ∧ C p + (if p = q then 0 else 1) = mnH C q r ∧ ∀ p', p' < p → mnH C q r < C p' + (if p' = q then 0 else 1))
  | 0 => Or.inl ⟨rfl, rfl⟩
  | r + 1 => by
    have hle := mnH_le C q r
    rw [mnH_s, nxH_s]
    generalize hv : C r + (if r = q then 0 else 1) = v
    by_cases c : v < mnH C q r
    · rw [if_pos c, Nat.min_eq_right (by omega)]
      refine Or.inr ⟨by omega, r, rfl, by omega, hv, fun p' hp' => ?_⟩
      have : ∀ m, m ≤ r → ∀ p', p' < m → mnH C q r ≤ C p' + (if p' = q then 0 else 1) := fun m hm p' hp' => by
        have h2 : ∀ i, p' < i → mnH C q i ≤ C p' + (if p' = q then 0 else 1) := fun i => by
          induction i with
          | zero => intro h; omega
          | succ i ih =>
            intro h
            rw [mnH_s]
            by_cases e : p' = i
            · subst e; exact Nat.min_le_right _ _
            · exact Nat.le_trans (Nat.min_le_left _ _) (ih (by omega))
        exact h2 r (by omega)
      have := this r (Nat.le_refl _) p' hp'
      omega
    · rw [if_neg c, Nat.min_eq_left (by omega)]
      rcases nxH_ok C q r with h | ⟨h1, p, h2, h3, h4, h5⟩
      · exact Or.inl h
      · exact Or.inr ⟨h1, p, h2, by omega, h4, h5⟩
/-- what lies ahead of q in the k-th hour, d hours before the last -/
def cst (L : Row2) (h P : Nat) : Nat → Nat → Nat → Nat
  | 0, k, q => if asl (L 2 q) (L 3 q) (h + k) = 0 then 0 else 1000
  | d + 1, k, q => if asl (L 2 q) (L 3 q) (h + k) = 0 then mnH (cst L h P d (k + 1)) q P else 1000
theorem cst_0 (L : Row2) (h P k q : Nat) : cst L h P 0 k q = if asl (L 2 q) (L 3 q) (h + k) = 0 then 0 else 1000 := rfl
theorem cst_s (L : Row2) (h P d k q : Nat) : cst L h P (d + 1) k q = if asl (L 2 q) (L 3 q) (h + k) = 0 then mnH (cst L h P d (k + 1)) q P else 1000 := rfl
theorem cst_le (L : Row2) (h P d k q : Nat) : cst L h P d k q ≤ 1000 := by
  cases d with
  | zero => rw [cst_0]; split <;> omega
  | succ d =>
    rw [cst_s]
    split
    · exact mnH_le _ _ _
    · omega
section RX
variable {σ : MS} {P : Nat}
theorem x_by {C : Nat → Nat} {k q r : Nat} (hk : k < 48) (hr : r < 4) (hq : q < 4) (hc : sI σ 51 (k * 4 + r) = nI (C r)) : f_X5_handingsBy (nI k) (nI q) (nI r) σ = some (nI (C r + if r = q then 0 else 1)) := by
  unfold f_X5_handingsBy b_X5_handingsBy_0 b_X5_handingsBy_20
  rw [nl_mul, nI_add, chk_t (in_n (show k * 4 + r < 192 by omega) (by decide)), ix_n (by omega), hc, q_eq (by omega) (by omega)]
  by_cases e : r = q
  · rw [if_pos e, if_pos e]; exact congrArg some (nI_add _ 0)
  · rw [if_neg e, if_neg e]; exact congrArg some (nI_add _ 1)
theorem x_fewest_loop {C : Nat → Nat} {k q : Nat} (hP : P ≤ 4) (h1 : sI σ 50 1 = nI P) (hk : k < 48) (hq : q < 4) (hc : ∀ r, r < P → sI σ 51 (k * 4 + r) = nI (C r)) (hC : ∀ r, C r ≤ 1000) : ∀ (j r n : Nat), r + j = P → j < n → b_X5_fewestFrom_7 n (nI k) (nI q) (nI (mnH C q r)) (nI r) σ = some (nI (mnH C q P))
  | 0, r, n + 1, hr, _ => by
    unfold b_X5_fewestFrom_7
    rw [h1, q_le (by omega) (by omega), if_pos (by omega), show r = P by omega]
  | j + 1, r, n + 1, hr, hn => by
    have hm := mnH_le C q r
    have hcr := hC r
    have hd : (if r = q then 0 else 1) ≤ 1 := by split <;> omega
    unfold b_X5_fewestFrom_7
    rw [h1, q_le (by omega) (by omega), if_neg (by omega), x_by hk (by omega) hq (hc r (by omega)), bnd, x_min (by omega) (by omega), bnd, nI_1]
    exact x_fewest_loop hP h1 hk hq hc hC j (r + 1) n (by omega) (by omega)
  | _, _, 0, _, hn => absurd hn (Nat.not_lt_zero _)
theorem x_fewest {C : Nat → Nat} {k q : Nat} (hP : P ≤ 4) (h1 : sI σ 50 1 = nI P) (hk : k < 48) (hq : q < 4) (hc : ∀ r, r < P → sI σ 51 (k * 4 + r) = nI (C r)) (hC : ∀ r, C r ≤ 1000) : f_X5_fewestFrom (nI k) (nI q) σ = some (nI (mnH C q P)) :=
  x_fewest_loop hP h1 hk hq hc hC P 0 FU (by omega) (by have := FU_big; omega)
theorem x_best_loop {C : Nat → Nat} {k q p m : Nat} (hP : P ≤ 4) (h1 : sI σ 50 1 = nI P) (hk : k < 48) (hq : q < 4) (hc : ∀ r, r < P → sI σ 51 (k * 4 + r) = nI (C r)) (hC : ∀ r, C r ≤ 1000) (hp : p < P) (hm : C p + (if p = q then 0 else 1) = m) (hl : ∀ p', p' < p → m < C p' + (if p' = q then 0 else 1)) : ∀ (j r n : Nat), r + j = p → j < n → b_X5_firstBest_10 n (nI k) (nI q) (nI m) (nI r) σ = some (nI p)
  | 0, r, n + 1, hr, _ => by
    have hcr := hC r
    have hd : (if r = q then 0 else 1) ≤ 1 := by split <;> omega
    have e : r = p := by omega
    subst e
    unfold b_X5_firstBest_10
    rw [h1, q_le (by omega) (by omega), if_neg (by omega), x_by hk (by omega) hq (hc r (by omega)), bnd, hm, if_pos rfl]
  | j + 1, r, n + 1, hr, hn => by
    have hcr := hC r
    have hd : (if r = q then 0 else 1) ≤ 1 := by split <;> omega
    have := hl r (by omega)
    unfold b_X5_firstBest_10
    rw [h1, q_le (by omega) (by omega), if_neg (by omega), x_by hk (by omega) hq (hc r (by omega)), bnd, q_eq (by omega) (by omega), if_neg (by omega), nI_1]
    exact x_best_loop hP h1 hk hq hc hC hp hm hl j (r + 1) n (by omega) (by omega)
  | _, _, 0, _, hn => absurd hn (Nat.not_lt_zero _)
theorem x_best {C : Nat → Nat} {k q p : Nat} (hP : P ≤ 4) (h1 : sI σ 50 1 = nI P) (hk : k < 48) (hq : q < 4) (hc : ∀ r, r < P → sI σ 51 (k * 4 + r) = nI (C r)) (hC : ∀ r, C r ≤ 1000) (hp : p < P) (hm : C p + (if p = q then 0 else 1) = mnH C q P) (hl : ∀ p', p' < p → mnH C q P < C p' + (if p' = q then 0 else 1)) : f_X5_firstBest (nI k) (nI q) σ = some (nI p) := by
  unfold f_X5_firstBest b_X5_firstBest_0
  rw [x_fewest hP h1 hk hq hc hC, bnd]
  exact x_best_loop hP h1 hk hq hc hC hp hm hl p 0 FU (by omega) (by have := FU_big; omega)
end RX
theorem hI_d (m : Nat) : nI m + (-1 : Int32) = hI m := by
  show nI m + -1 = nI m - 1
  rw [Int32.sub_eq_add_neg]
theorem hI_neg0 : hI 0 < 0 := by decide
section WG
variable {P h n : Nat} {L : Row2}
/-- the class's table, one row -/
theorem x_weigh_in (k13 : Int32 → Int32 → Int32 → MS → Option MS) (hP : P ≤ 4) (hh : h ≤ 999) (hn : n ≤ 48) {k : Nat} (hk : k < n) (hL3 : ∀ p, p < P → L 2 p ≤ 23 ∧ L 3 p ≤ 24) : ∀ (j q f : Nat) (σ : MS), q + j = P → j < f → sI σ 50 1 = nI P → (∀ p, p < P → sI σ 26 p = nI (L 2 p) ∧ sI σ 27 p = nI (L 3 p)) → (∀ r, r < P → k + 1 < n → sI σ 51 ((k + 1) * 4 + r) = nI (cst L h P (n - 1 - (k + 1)) (k + 1) r)) →
    ∃ σ', b_X5_weigh_21 k13 f (nI h) (nI n) (nI k) (nI q) σ = k13 (nI h) (nI n) (hI k) σ' ∧ Sm σ σ' ∧ (∀ b, b ≠ 51 → sI σ' b = sI σ b) ∧ (∀ i, sI σ' 51 i = if k * 4 + q ≤ i ∧ i < k * 4 + P then nI (cst L h P (n - 1 - k) k (i - k * 4)) else sI σ 51 i)
  | 0, q, f + 1, σ, hq, _, h1, _, _ => by
    refine ⟨σ, ?_, Sm.refl σ, fun _ _ => rfl, fun i => by rw [if_neg (by omega)]⟩
    unfold b_X5_weigh_21
    rw [h1, q_le (by omega) (by omega), if_pos (by omega), hI_d]
  | j + 1, q, f + 1, σ, hq, hf, h1, h2, h3 => by
    have hb := hL3 q (by omega)
    have e26 := h2 q (by omega)
    have ea : f_X3_isAsleep (nI q) (nI (h + k)) σ = some (nI (asl (L 2 q) (L 3 q) (h + k))) := x_asleep (by omega) e26.1 e26.2 hb.1 hb.2 (by omega)
    obtain ⟨σ', g1, g2, g3, g4⟩ := x_weigh_in k13 hP hh hn hk hL3 j (q + 1) f (wI σ 51 (k * 4 + q) (nI (cst L h P (n - 1 - k) k q))) (by omega) (by omega) (by rw [sI_wIn _ _ _ _ (by decide)]; exact h1) (by rw [sI_wIn _ _ _ _ (by decide), sI_wIn _ _ _ _ (by decide)]; exact h2) (fun r hr hk1 => by rw [sI_wIk _ _ _ _ (by omega)]; exact h3 r hr hk1)
    refine ⟨σ', ?_, ⟨g2.1, g2.2.1, g2.2.2⟩, fun b hb => by rw [g3 b hb, sI_wIn _ _ _ _ hb], fun i => ?_⟩
    · rw [← g1]
      conv => lhs; unfold b_X5_weigh_21
      have tail : ∀ v, (asl (L 2 q) (L 3 q) (h + k) = 0 → v = cst L h P (n - 1 - k) k q) → b_X5_weigh_52 k13 (b_X5_weigh_21 k13 f) (nI h) (nI n) (nI k) (nI q) (nI v) σ = b_X5_weigh_21 k13 f (nI h) (nI n) (nI k) (nI (q + 1)) (wI σ 51 (k * 4 + q) (nI (cst L h P (n - 1 - k) k q))) := fun v hv => by
        unfold b_X5_weigh_52 b_X5_weigh_86
        rw [nI_add, ea, bnd, nl_mul, nI_add, chk_t (in_n (show k * 4 + q < 192 by omega) (by decide)), ix_n (by omega), nI_1]
        rcases asl_01 (L 2 q) (L 3 q) (h + k) with e | e
        · rw [e, if_pos (by decide), hv e]
        · have e1 : cst L h P (n - 1 - k) k q = 1000 := by
            cases hd : n - 1 - k with
            | zero => rw [cst_0, e]; rfl
            | succ d => rw [cst_s, e]; rfl
          rw [e, if_neg (by decide), chk_t (in_n (show k * 4 + q < 192 by omega) (by decide)), e1]; rfl
      rw [h1, q_le (by omega) (by omega), if_neg (by omega), nl_sub (show 1 ≤ n by omega), q_eq (by omega) (by omega)]
      by_cases c : k = n - 1
      · rw [if_pos c, show (0 : Int32) = nI 0 from rfl]
        exact tail 0 (fun e => by rw [show n - 1 - k = 0 by omega, cst_0, if_pos e])
      · have hk1 : k + 1 < n := by omega
        rw [if_neg c, nI_1, x_fewest (C := cst L h P (n - 1 - (k + 1)) (k + 1)) hP h1 (by omega) (by omega) (fun r hr => h3 r hr hk1) (fun r => cst_le _ _ _ _ _ _), bnd]
        exact tail _ (fun e => by rw [show n - 1 - k = (n - 1 - (k + 1)) + 1 by omega, cst_s, if_pos e])
    · rw [g4 i]
      by_cases c : i = k * 4 + q
      · subst c
        rw [if_neg (by omega), if_pos (by omega), sI_wIs, Nat.add_sub_cancel_left]
      · rw [sI_wIk _ _ _ _ c]; exact ite_iff (by omega) _ _
  | _, _, 0, _, _, hf, _, _, _ => absurd hf (Nat.not_lt_zero _)
theorem x_weigh_out (hP : P ≤ 4) (hh : h ≤ 999) (hn : n ≤ 48) (hL3 : ∀ p, p < P → L 2 p ≤ 23 ∧ L 3 p ≤ 24) : ∀ (m f : Nat) (σ : MS), m ≤ n → m < f → sI σ 50 1 = nI P → (∀ p, p < P → sI σ 26 p = nI (L 2 p) ∧ sI σ 27 p = nI (L 3 p)) → (∀ k r, m ≤ k → k < n → r < P → sI σ 51 (k * 4 + r) = nI (cst L h P (n - 1 - k) k r)) →
    ∃ σ', b_X5_weigh_13 f (nI h) (nI n) (hI m) σ = some σ' ∧ Sm σ σ' ∧ (∀ b, b ≠ 51 → sI σ' b = sI σ b) ∧ (∀ k r, k < n → r < P → sI σ' 51 (k * 4 + r) = nI (cst L h P (n - 1 - k) k r))
  | 0, f + 1, σ, _, _, h1, _, h3 => by
    refine ⟨σ, ?_, Sm.refl σ, fun _ _ => rfl, fun k r hk hr => h3 k r (by omega) hk hr⟩
    unfold b_X5_weigh_13
    rw [if_pos hI_neg0]
  | m + 1, f + 1, σ, hm, hf, h1, h2, h3 => by
    have hF := FU_big
    obtain ⟨σ1, a1, a2, a3, a4⟩ := x_weigh_in (b_X5_weigh_13 f) hP hh hn (k := m) (by omega) hL3 P 0 FU σ (by omega) (by omega) h1 h2 (fun r hr hk1 => h3 (m + 1) r (by omega) hk1 hr)
    obtain ⟨σ2, b1, b2, b3, b4⟩ := x_weigh_out hP hh hn hL3 m f σ1 (by omega) (by omega) (by rw [a3 50 (by decide)]; exact h1) (by rw [a3 26 (by decide), a3 27 (by decide)]; exact h2) (fun k r hk1 hk2 hr => by
      rw [a4]
      by_cases c : k = m
      · subst c
        rw [if_pos (by omega), Nat.add_sub_cancel_left]
      · rw [if_neg (by omega)]; exact h3 k r (by omega) hk2 hr)
    refine ⟨σ2, ?_, a2.trans b2, fun b hb => (b3 b hb).trans (a3 b hb), b4⟩
    conv => lhs; unfold b_X5_weigh_13
    rw [hI_s, if_neg (nI_pos (by omega)), show (0 : Int32) = nI 0 from rfl, a1, b1]
  | _, 0, _, _, hf, _, _, _ => absurd hf (Nat.not_lt_zero _)
/-- the reference's table, one entry's least -/
theorem m_least (k4 : Int32 → Int32 → MS → Option MS) (k10 : Int32 → Int32 → Int32 → MS → Option MS) {σ : MS} {C : Nat → Nat} {k q : Nat} (hP : P ≤ 4) (hn : n ≤ 48) (hk : k + 1 < n) (hq : q < 4) (h3 : sI σ 1 3 = nI P) (hc : ∀ r, r < P → sI σ 40 (4 * (k + 1) + r) = nI (C r)) (hC : ∀ r, C r ≤ 1000) : ∀ (j r f : Nat), r + j = P → j < f → b_X12_laysHandings_39 k4 k10 f (nI n) (nI k) (nI q) (nI (mnH C q r)) (nI r) σ = b_X12_laysHandings_106 k4 k10 (nI n) (nI k) (nI q) (nI (mnH C q P)) σ
  | 0, r, f + 1, hr, _ => by
    unfold b_X12_laysHandings_39
    rw [h3, q_le (by omega) (by omega), if_pos (by omega), show r = P by omega]
  | j + 1, r, f + 1, hr, hf => by
    have ih := m_least k4 k10 hP hn hk hq h3 hc hC j (r + 1) f (by omega) (by omega)
    rw [mnH_s] at ih
    have hm := mnH_le C q r
    have hcr := hC r
    conv => lhs; unfold b_X12_laysHandings_39 b_X12_laysHandings_81 b_X12_laysHandings_98
    rw [h3, q_le (by omega) (by omega), if_neg (by omega), nl_sub (show 1 ≤ n by omega), q_le (by omega) (by omega), if_neg (by omega), nI_1, ln_mul, nI_add, chk_t (in_n (show 4 * (k + 1) + r < 196 by omega) (by decide)), ix_n (by omega), hc r (by omega), q_eq (by omega) (by omega), nI_1]
    by_cases e : r = q
    · rw [if_pos e] at ih
      rw [if_pos e, show nI (C r) + (0 : Int32) = nI (C r + 0) from nI_add _ 0, q_le (by omega) (by omega)]
      by_cases c : mnH C q r ≤ C r + 0
      · rw [Nat.min_eq_left c] at ih
        rw [if_pos c, ih]
      · rw [Nat.min_eq_right (by omega)] at ih
        rw [if_neg c, ih]
    · rw [if_neg e] at ih
      rw [if_neg e, nI_1, q_le (by omega) (by omega)]
      by_cases c : mnH C q r ≤ C r + 1
      · rw [Nat.min_eq_left c] at ih
        rw [if_pos c, ih]
      · rw [Nat.min_eq_right (by omega)] at ih
        rw [if_neg c, ih]
  | _, _, 0, _, hf => absurd hf (Nat.not_lt_zero _)
theorem m_weigh_in (k4 : Int32 → Int32 → MS → Option MS) (hP : P ≤ 4) (hh : h ≤ 999) (hn : n ≤ 48) {k : Nat} (hk : k < n) (hL3 : ∀ p, p < P → L 2 p ≤ 23 ∧ L 3 p ≤ 24) : ∀ (j q f : Nat) (σ : MS), q + j = P → j < f → sI σ 1 3 = nI P → sI σ 1 5 = nI h → (∀ p, p < P → sI σ 5 p = nI (L 2 p) ∧ sI σ 6 p = nI (L 3 p)) → (∀ r, r < P → k + 1 < n → sI σ 40 (4 * (k + 1) + r) = nI (cst L h P (n - 1 - (k + 1)) (k + 1) r)) →
    ∃ σ', b_X12_laysHandings_10 k4 f (nI n) (nI k) (nI q) σ = k4 (nI n) (hI k) σ' ∧ Sm σ σ' ∧ (∀ b, b ≠ 40 → sI σ' b = sI σ b) ∧ (∀ i, sI σ' 40 i = if 4 * k + q ≤ i ∧ i < 4 * k + P then nI (cst L h P (n - 1 - k) k (i - 4 * k)) else sI σ 40 i)
  | 0, q, f + 1, σ, hq, _, h1, _, _, _ => by
    refine ⟨σ, ?_, Sm.refl σ, fun _ _ => rfl, fun i => by rw [if_neg (by omega)]⟩
    unfold b_X12_laysHandings_10
    rw [h1, q_le (by omega) (by omega), if_pos (by omega), hI_d]
  | j + 1, q, f + 1, σ, hq, hf, h1, h5, h2, h3 => by
    have hF := FU_big
    have hb := hL3 q (by omega)
    have e26 := h2 q (by omega)
    have ea : f_X12_isAsleep (nI q) (nI (h + k)) σ = some (nI (asl (L 2 q) (L 3 q) (h + k))) := m_asleep (by omega) e26.1 e26.2 hb.1 hb.2 (by omega)
    obtain ⟨σ', g1, g2, g3, g4⟩ := m_weigh_in k4 hP hh hn hk hL3 j (q + 1) f (wI σ 40 (4 * k + q) (nI (cst L h P (n - 1 - k) k q))) (by omega) (by omega) (by rw [sI_wIn _ _ _ _ (by decide)]; exact h1) (by rw [sI_wIn _ _ _ _ (by decide)]; exact h5) (by rw [sI_wIn _ _ _ _ (by decide), sI_wIn _ _ _ _ (by decide)]; exact h2) (fun r hr hk1 => by rw [sI_wIk _ _ _ _ (by omega)]; exact h3 r hr hk1)
    refine ⟨σ', ?_, ⟨g2.1, g2.2.1, g2.2.2⟩, fun b hb => by rw [g3 b hb, sI_wIn _ _ _ _ hb], fun i => ?_⟩
    · rw [← g1]
      conv => lhs; unfold b_X12_laysHandings_10 b_X12_laysHandings_34
      have tail : ∀ v, (asl (L 2 q) (L 3 q) (h + k) = 0 → v = cst L h P (n - 1 - k) k q) → b_X12_laysHandings_106 k4 (b_X12_laysHandings_10 k4 f) (nI n) (nI k) (nI q) (nI v) σ = b_X12_laysHandings_10 k4 f (nI n) (nI k) (nI (q + 1)) (wI σ 40 (4 * k + q) (nI (cst L h P (n - 1 - k) k q))) := fun v hv => by
        unfold b_X12_laysHandings_106 b_X12_laysHandings_139
        rw [h5, nI_add, ea, bnd, ln_mul, nI_add, chk_t (in_n (show 4 * k + q < 196 by omega) (by decide)), ix_n (by omega), nI_1]
        rcases asl_01 (L 2 q) (L 3 q) (h + k) with e | e
        · rw [e, if_pos (by decide), hv e]
        · have e1 : cst L h P (n - 1 - k) k q = 1000 := by
            cases hd : n - 1 - k with
            | zero => rw [cst_0, e]; rfl
            | succ d => rw [cst_s, e]; rfl
          rw [e, if_neg (by decide), chk_t (in_n (show 4 * k + q < 196 by omega) (by decide)), e1]; rfl
      rw [h1, q_le (by omega) (by omega), if_neg (by omega), nl_sub (show 1 ≤ n by omega), q_eq (by omega) (by omega)]
      by_cases c : k = n - 1
      · rw [if_pos c]
        obtain ⟨F, hFe⟩ : ∃ F, FU = F + 1 := ⟨FU - 1, by omega⟩
        have e39 : b_X12_laysHandings_39 k4 (b_X12_laysHandings_10 k4 f) FU (nI n) (nI k) (nI q) 0 0 σ = b_X12_laysHandings_106 k4 (b_X12_laysHandings_10 k4 f) (nI n) (nI k) (nI q) 0 σ := by
          rw [hFe]
          unfold b_X12_laysHandings_39
          rw [h1, nl_sub (show 1 ≤ n by omega), q_le (show n - 1 < 2 ^ 31 by omega) (by omega), if_pos (show n - 1 ≤ k by omega), ite_self]
        rw [e39]
        exact tail 0 (fun e => by rw [show n - 1 - k = 0 by omega, cst_0, if_pos e])
      · have hk1 : k + 1 < n := by omega
        rw [if_neg c]
        have := m_least k4 (b_X12_laysHandings_10 k4 f) (σ := σ) (C := cst L h P (n - 1 - (k + 1)) (k + 1)) (q := q) hP hn hk1 (by omega) h1 (fun r hr => h3 r hr hk1) (fun r => cst_le _ _ _ _ _ _) P 0 FU (by omega) (by omega)
        rw [show (1000 : Int32) = nI (mnH (cst L h P (n - 1 - (k + 1)) (k + 1)) q 0) from rfl, show (0 : Int32) = nI 0 from rfl, this]
        exact tail _ (fun e => by rw [show n - 1 - k = (n - 1 - (k + 1)) + 1 by omega, cst_s, if_pos e])
    · rw [g4 i]
      by_cases c : i = 4 * k + q
      · subst c
        rw [if_neg (by omega), if_pos (by omega), sI_wIs, Nat.add_sub_cancel_left]
      · rw [sI_wIk _ _ _ _ c]; exact ite_iff (by omega) _ _
  | _, _, 0, _, _, hf, _, _, _, _ => absurd hf (Nat.not_lt_zero _)
theorem m_weigh_out (hP : P ≤ 4) (hh : h ≤ 999) (hn : n ≤ 48) (hL3 : ∀ p, p < P → L 2 p ≤ 23 ∧ L 3 p ≤ 24) : ∀ (m f : Nat) (σ : MS), m ≤ n → m < f → sI σ 1 3 = nI P → sI σ 1 5 = nI h → (∀ p, p < P → sI σ 5 p = nI (L 2 p) ∧ sI σ 6 p = nI (L 3 p)) → (∀ k r, m ≤ k → k < n → r < P → sI σ 40 (4 * k + r) = nI (cst L h P (n - 1 - k) k r)) →
    ∃ σ', b_X12_laysHandings_4 f (nI n) (hI m) σ = some σ' ∧ Sm σ σ' ∧ (∀ b, b ≠ 40 → sI σ' b = sI σ b) ∧ (∀ k r, k < n → r < P → sI σ' 40 (4 * k + r) = nI (cst L h P (n - 1 - k) k r))
  | 0, f + 1, σ, _, _, _, _, _, h3 => by
    refine ⟨σ, ?_, Sm.refl σ, fun _ _ => rfl, fun k r hk hr => h3 k r (by omega) hk hr⟩
    unfold b_X12_laysHandings_4
    rw [if_pos hI_neg0]
  | m + 1, f + 1, σ, hm, hf, h1, h5, h2, h3 => by
    have hF := FU_big
    obtain ⟨σ1, a1, a2, a3, a4⟩ := m_weigh_in (b_X12_laysHandings_4 f) hP hh hn (k := m) (by omega) hL3 P 0 FU σ (by omega) (by omega) h1 h5 h2 (fun r hr hk1 => h3 (m + 1) r (by omega) hk1 hr)
    obtain ⟨σ2, b1, b2, b3, b4⟩ := m_weigh_out hP hh hn hL3 m f σ1 (by omega) (by omega) (by rw [a3 1 (by decide)]; exact h1) (by rw [a3 1 (by decide)]; exact h5) (by rw [a3 5 (by decide), a3 6 (by decide)]; exact h2) (fun k r hk1 hk2 hr => by
      rw [a4]
      by_cases c : k = m
      · subst c
        rw [if_pos (by omega), Nat.add_sub_cancel_left]
      · rw [if_neg (by omega)]; exact h3 k r (by omega) hk2 hr)
    refine ⟨σ2, ?_, a2.trans b2, fun b hb => (b3 b hb).trans (a3 b hb), b4⟩
    conv => lhs; unfold b_X12_laysHandings_4
    rw [hI_s, if_neg (nI_pos (by omega)), show (0 : Int32) = nI 0 from rfl, a1, b1]
  | _, 0, _, _, hf, _, _, _, _ => absurd hf (Nat.not_lt_zero _)
/-- the reference looks who takes it in the k-th hour -/
theorem m_next (k58 : Int32 → Int32 → Int32 → Int32 → Int32 → MS → Option (Int32 × MS)) {σ : MS} {C : Nat → Nat} {k q : Nat} {y2 y3 y5 : Int32} (hP : P ≤ 4) (hk : k < 48) (hq : q < 4) (h3 : sI σ 1 3 = nI P) (hc : ∀ r, r < P → sI σ 40 (4 * k + r) = nI (C r)) (hC : ∀ r, C r ≤ 1000) : ∀ (j r f : Nat), r + j = P → j < f → b_X12_relay_90 k58 f y2 y3 (nI q) y5 (nI k) (hI (nxH C q r)) (nI (mnH C q r)) (nI r) σ = b_X12_relay_161 k58 y2 y3 (nI k) (hI (nxH C q P)) (if k = 0 then nI (mnH C q P) else y5) σ
  | 0, r, f + 1, hr, _ => by
    conv => lhs; unfold b_X12_relay_90
    rw [h3, q_le (by omega) (by omega), if_pos (by omega), q_zero (by omega), show r = P by omega]
    by_cases e : k = 0
    · rw [if_pos e, if_pos e]
    · rw [if_neg e, if_neg e]
  | j + 1, r, f + 1, hr, hf => by
    have ih := m_next k58 (y2 := y2) (y3 := y3) (y5 := y5) hP hk hq h3 hc hC j (r + 1) f (by omega) (by omega)
    rw [mnH_s, nxH_s] at ih
    have hm := mnH_le C q r
    have hcr := hC r
    conv => lhs; unfold b_X12_relay_90 b_X12_relay_125 b_X12_relay_143
    rw [h3, q_le (by omega) (by omega), if_neg (by omega), ln_mul, nI_add, chk_t (in_n (show 4 * k + r < 196 by omega) (by decide)), ix_n (by omega), hc r (by omega), q_eq (by omega) (by omega), nI_1]
    by_cases e : r = q
    · rw [if_pos e] at ih
      rw [if_pos e, show nI (C r) + (0 : Int32) = nI (C r + 0) from nI_add _ 0, q_le (by omega) (by omega)]
      by_cases c : C r + 0 < mnH C q r
      · rw [if_pos c, Nat.min_eq_right (by omega), hI_s] at ih
        rw [if_neg (by omega), ih]
      · rw [if_neg c, Nat.min_eq_left (by omega)] at ih
        rw [if_pos (by omega), ih]
    · rw [if_neg e] at ih
      rw [if_neg e, nI_1, q_le (by omega) (by omega)]
      by_cases c : C r + 1 < mnH C q r
      · rw [if_pos c, Nat.min_eq_right (by omega), hI_s] at ih
        rw [if_neg (by omega), ih]
      · rw [if_neg c, Nat.min_eq_left (by omega)] at ih
        rw [if_pos (by omega), ih]
  | _, _, 0, _, hf => absurd hf (Nat.not_lt_zero _)
end WG
section RR
variable {P n : Nat} {σx σm : MS} {C : Nat → Nat → Nat}
/-- too far asked: the reference says -2 at last -/
theorem relay_far (hP : P ≤ 4) (hn : n ≤ 48) (h3 : sI σm 1 3 = nI P) (hc : ∀ k r, k < n → r < P → sI σm 40 (4 * k + r) = nI (C k r)) (hC : ∀ k r, C k r ≤ 1000) {w : Nat} (hw : n ≤ w) (hw2 : w < 48) : ∀ (j k f q : Nat) (y5 : Int32), k + j = n → j < f → q < P → b_X12_relay_58 f (nI n) (nI w) (nI q) y5 (nI k) σm = some (-2, σm)
  | 0, k, f + 1, q, y5, hk, _, hq => by
    unfold b_X12_relay_58 b_X12_relay_182 b_X12_relay_204
    rw [q_le (by omega) (by omega), if_pos (by omega), if_neg (n_neg1 (by omega)), q_le (by omega) (by omega), if_pos (by omega)]
  | j + 1, k, f + 1, q, y5, hk, hf, hq => by
    have hF := FU_big
    have hnx := m_next (b_X12_relay_58 f) (σ := σm) (C := C k) (k := k) (q := q) (y2 := nI n) (y3 := nI w) (y5 := y5) hP (by omega) (by omega) h3 (fun r hr => hc k r (by omega) hr) (hC k) P 0 FU (by omega) (by omega)
    conv => lhs; unfold b_X12_relay_58 b_X12_relay_76
    rw [q_le (by omega) (by omega), if_neg (by omega), if_neg (n_neg1 (by omega)), q_lt (by omega) (by omega), if_neg (by omega)]
    rw [show (-1 : Int32) = hI (nxH (C k) q 0) from rfl, show (1000 : Int32) = nI (mnH (C k) q 0) from rfl, show (0 : Int32) = nI 0 from rfl, hnx]
    unfold b_X12_relay_161
    rcases nxH_ok (C k) q P with ⟨_, e⟩ | ⟨_, p, e, hp, _⟩
    · rw [e, hI_0, if_pos rfl]
    · rw [e, hI_s, if_neg (n_neg1 (by omega)), nI_1]
      exact relay_far hP hn h3 hc hC hw hw2 j (k + 1) f p _ (by omega) (by omega) hp
  | _, _, 0, _, _, _, hf, _ => absurd hf (Nat.not_lt_zero _)
/-- both go on from hour to hour -/
theorem relay_on (hP : P ≤ 4) (hn : n ≤ 48) (h3 : sI σm 1 3 = nI P) (h1 : sI σx 50 1 = nI P) (hc : ∀ k r, k < n → r < P → sI σm 40 (4 * k + r) = nI (C k r)) (hcx : ∀ k r, k < n → r < P → sI σx 51 (k * 4 + r) = nI (C k r)) (hC : ∀ k r, C k r ≤ 1000) (hgo : ∀ k p, k + 1 < n → C k p < 1000 → mnH (C (k + 1)) p P < 1000) {w : Nat} (hw : w < n) : ∀ (j k f g q : Nat) (y5 : Int32), k + j = w + 1 → j < f → j < g → q < P → (k < n → mnH (C k) q P < 1000) → ∃ v, b_X5_holderIn_5 g (nI w) (nI q) (nI k) σx = some (nI v) ∧ b_X12_relay_58 f (nI n) (nI w) (nI q) y5 (nI k) σm = some (nI v, σm)
  | 0, k, f + 1, g + 1, q, y5, hk, _, _, hq, _ => by
    refine ⟨q, ?_, ?_⟩
    · unfold b_X5_holderIn_5
      rw [q_lt (by omega) (by omega), if_pos (by omega)]
    · have e182 : b_X12_relay_182 (nI n) (nI w) (nI q) y5 σm = some (nI q, σm) := by
        unfold b_X12_relay_182 b_X12_relay_204
        rw [if_neg (n_neg1 (by omega)), q_le (by omega) (by omega), if_neg (by omega)]
      unfold b_X12_relay_58 b_X12_relay_76
      rw [q_le (by omega) (by omega), if_neg (n_neg1 (by omega)), q_lt (by omega) (by omega), if_pos (show w < k by omega), e182, ite_self]
  | j + 1, k, f + 1, g + 1, q, y5, hk, hf, hg, hq, hm => by
    have hF := FU_big
    have hnx := m_next (b_X12_relay_58 f) (σ := σm) (C := C k) (k := k) (q := q) (y2 := nI n) (y3 := nI w) (y5 := y5) hP (by omega) (by omega) h3 (fun r hr => hc k r (by omega) hr) (hC k) P 0 FU (by omega) (by omega)
    have hlt := hm (by omega)
    rcases nxH_ok (C k) q P with ⟨e, _⟩ | ⟨_, p, e, hp, ep, el⟩
    · omega
    · have hb := x_best (σ := σx) (C := C k) (k := k) (q := q) hP h1 (by omega) (by omega) (fun r hr => hcx k r (by omega) hr) (hC k) hp ep el
      obtain ⟨v, r1, r2⟩ := relay_on hP hn h3 h1 hc hcx hC hgo hw j (k + 1) f g p (if k = 0 then nI (mnH (C k) q P) else y5) (by omega) (by omega) (by omega) hp (fun hk1 => hgo k p hk1 (by omega))
      refine ⟨v, ?_, ?_⟩
      · conv => lhs; unfold b_X5_holderIn_5
        rw [q_lt (by omega) (by omega), if_neg (by omega), hb, bnd, nI_1]
        exact r1
      · conv => lhs; unfold b_X12_relay_58 b_X12_relay_76
        rw [q_le (by omega) (by omega), if_neg (by omega), if_neg (n_neg1 (by omega)), q_lt (by omega) (by omega), if_neg (by omega)]
        rw [show (-1 : Int32) = hI (nxH (C k) q 0) from rfl, show (1000 : Int32) = nI (mnH (C k) q 0) from rfl, show (0 : Int32) = nI 0 from rfl, hnx]
        unfold b_X12_relay_161
        rw [e, hI_s, if_neg (n_neg1 (by omega)), nI_1]
        exact r2
  | _, _, 0, _, _, _, _, hf, _, _, _ => absurd hf (Nat.not_lt_zero _)
  | _, _, _ + 1, 0, _, _, _, _, hg, _, _ => absurd hg (Nat.not_lt_zero _)
end RR
end
