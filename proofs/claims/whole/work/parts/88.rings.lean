/-! ===== pure: rows of works, rings, the order of rows ===== -/
section
theorem php : ∀ (n : Nat) (g : Nat → Nat), (∀ i, i ≤ n → g i < n) → ∃ i j, i < j ∧ j ≤ n ∧ g i = g j
  | 0, g, h => absurd (h 0 (Nat.le_refl _)) (Nat.not_lt_zero _)
  | n + 1, g, h => by
    by_cases c : ∃ i, i ≤ n ∧ g i = g (n + 1)
    · obtain ⟨i, h1, h2⟩ := c
      exact ⟨i, n + 1, by omega, Nat.le_refl _, h2⟩
    · have c' : ∀ i, i ≤ n → g i ≠ g (n + 1) := fun i hi e => c ⟨i, hi, e⟩
      obtain ⟨i, j, h1, h2, h3⟩ := php n (fun i => if g (n + 1) < g i then g i - 1 else g i) (fun i hi => by
        have a1 := h i (by omega)
        have a2 := h (n + 1) (Nat.le_refl _)
        have a3 := c' i hi
        show (if g (n + 1) < g i then g i - 1 else g i) < n
        split <;> omega)
      have b1 := c' i (by omega)
      have b2 := c' j h2
      have h3 : (if g (n + 1) < g i then g i - 1 else g i) = (if g (n + 1) < g j then g j - 1 else g j) := h3
      refine ⟨i, j, h1, by omega, ?_⟩
      split at h3 <;> split at h3 <;> omega
/-- a row's steps: 0 is none -/
def it (r : Nat → Nat) : Nat → Nat → Nat
  | 0, x => x
  | k + 1, x => if x = 0 then 0 else it r k (r (x - 1))
theorem it_0 (r : Nat → Nat) : ∀ k, it r k 0 = 0
  | 0 => rfl
  | k + 1 => if_pos rfl
theorem it_s (r : Nat → Nat) (k : Nat) {x : Nat} (h : x ≠ 0) : it r (k + 1) x = it r k (r (x - 1)) := if_neg h
theorem it_add (r : Nat → Nat) : ∀ (a b x : Nat), it r (a + b) x = it r b (it r a x)
  | 0, b, x => by rw [Nat.zero_add]; rfl
  | a + 1, b, x => by
    rw [show a + 1 + b = (a + b) + 1 by omega]
    by_cases h : x = 0
    · subst h; rw [it_0, it_0, it_0]
    · rw [it_s r _ h, it_s r _ h, it_add r a b]
theorem it_pre (r : Nat → Nat) {k m x : Nat} (h : it r m x ≠ 0) (hk : k ≤ m) : it r k x ≠ 0 := fun e => by
  apply h
  rw [show m = k + (m - k) by omega, it_add, e, it_0]
theorem it_cong {r r' : Nat → Nat} {N : Nat} (h : ∀ w, w < N → r w = r' w) (hr : ∀ w, w < N → r w ≤ N) : ∀ (k x : Nat), x ≤ N → it r k x = it r' k x
  | 0, _, _ => rfl
  | k + 1, x, hx => by
    by_cases h0 : x = 0
    · subst h0; rw [it_0, it_0]
    · rw [it_s r _ h0, it_s r' _ h0, ← h (x - 1) (by omega)]
      exact it_cong h hr k _ (hr _ (by omega))
/-- the class's walk -/
def ld (r : Nat → Nat) (u : Nat) : Nat → Nat → Nat
  | 0, x => x
  | i + 1, x => if x = 0 ∨ u < x then x else ld r u i (r (x - 1))
theorem ld_it (r : Nat → Nat) (u : Nat) : ∀ (i x : Nat), ∃ m, m ≤ i ∧ ld r u i x = it r m x
  | 0, x => ⟨0, Nat.le_refl _, rfl⟩
  | i + 1, x => by
    unfold ld
    by_cases c : x = 0 ∨ u < x
    · rw [if_pos c]; exact ⟨0, by omega, rfl⟩
    · rw [if_neg c]
      obtain ⟨m, h1, h2⟩ := ld_it r u i (r (x - 1))
      exact ⟨m + 1, by omega, by rw [h2, it_s r m (by omega)]⟩
theorem ld_hit (r : Nat → Nat) (u : Nat) : ∀ (s i y : Nat), s ≤ i → it r s y = u + 1 → (∀ k, it r k y ≠ 0 ∧ it r k y ≤ u + 1) → ld r u i y = u + 1
  | 0, i, y, _, h, _ => by
    have h : y = u + 1 := h
    subst h
    cases i with
    | zero => rfl
    | succ i => unfold ld; rw [if_pos (Or.inr (by omega))]
  | s + 1, 0, y, hs, _, _ => absurd hs (by omega)
  | s + 1, i + 1, y, hs, h, ha => by
    have h0 := ha 0
    have h0 : y ≠ 0 ∧ y ≤ u + 1 := h0
    unfold ld
    by_cases c : u < y
    · rw [if_pos (Or.inr c)]; omega
    · rw [if_neg (by omega)]
      refine ld_hit r u s i (r (y - 1)) (by omega) (by rw [it_s r s h0.1] at h; exact h) (fun k => ?_)
      have := ha (k + 1)
      rw [it_s r k h0.1] at this
      exact this
theorem ld_cong {r r' : Nat → Nat} {u : Nat} (h : ∀ w, w < u → r w = r' w) : ∀ (i x : Nat), ld r u i x = ld r' u i x
  | 0, _ => rfl
  | i + 1, x => by
    unfold ld
    by_cases c : x = 0 ∨ u < x
    · rw [if_pos c, if_pos c]
    · rw [if_neg c, if_neg c, h (x - 1) (by omega), ld_cong h i]
/-- a ring is seen at its last work -/
theorem ring_iff {r : Nat → Nat} {N : Nat} (hN : N ≤ 6) (hr : ∀ w, w < N → r w ≤ N) : (∀ w, w < N → it r N (w + 1) = 0) ↔ (∀ u, u < N → r u ≠ 0 → ld r u 6 (r u) ≠ u + 1) := by
  constructor
  · intro h u hu h0 e
    obtain ⟨m, h1, h2⟩ := ld_it r u 6 (r u)
    rw [e] at h2
    have h3 : it r (m + 1) (u + 1) = u + 1 := by
      rw [it_s r m (by omega)]; exact h2.symm
    have h4 : ∀ j, it r (j * (m + 1)) (u + 1) = u + 1 := fun j => by
      induction j with
      | zero => rw [Nat.zero_mul]; rfl
      | succ j ih => rw [Nat.succ_mul, it_add, ih, h3]
    have h5 := h4 N
    have h6 := it_pre r (k := N) (m := N * (m + 1)) (x := u + 1) (by rw [h5]; omega) (by rw [Nat.mul_succ]; omega)
    exact h6 (h u hu)
  · intro h w hw
    by_cases c : it r N (w + 1) = 0
    · exact c
    · exfalso
      have inr : ∀ k x, x ≤ N → it r k x ≤ N := fun k => by
        induction k with
        | zero => intro x hx; exact hx
        | succ k ih =>
          intro x hx
          by_cases h0 : x = 0
          · subst h0; rw [it_0]; omega
          · rw [it_s r k h0]; exact ih _ (hr _ (by omega))
      have nz : ∀ i, i ≤ N → it r i (w + 1) ≠ 0 := fun i hi => it_pre r c hi
      obtain ⟨i, j, h1, h2, h3⟩ := php N (fun i => it r i (w + 1) - 1) (fun i hi => by
        have a1 := nz i hi
        have a2 := inr i (w + 1) (by omega)
        show it r i (w + 1) - 1 < N
        omega)
      have e0 : it r i (w + 1) = it r j (w + 1) := by
        have a1 := nz i (by omega)
        have a2 := nz j h2
        have h3 : it r i (w + 1) - 1 = it r j (w + 1) - 1 := h3
        omega
      generalize hx : it r i (w + 1) = x at e0
      have hp : it r (j - i) x = x := by
        rw [← hx, ← it_add, show i + (j - i) = j by omega, ← e0, hx]
      have per : ∀ k, it r (k + (j - i)) x = it r k x := fun k => by
        rw [Nat.add_comm, it_add, hp]
      have all : ∀ (Q : Nat → Prop), (∀ t, t < j - i → Q (it r t x)) → ∀ k, Q (it r k x) := fun Q hQ k => by
        induction k using Nat.strongRecOn with
        | ind k ih =>
          by_cases hk : k < j - i
          · exact hQ k hk
          · have := ih (k - (j - i)) (by omega)
            rw [← per, show k - (j - i) + (j - i) = k by omega] at this
            exact this
      have nzx : ∀ k, it r k x ≠ 0 := all (fun y => y ≠ 0) (fun t ht => by
        rw [← hx, ← it_add]
        exact nz _ (by omega))
      have mx : ∀ q, 0 < q → ∃ t, t < q ∧ ∀ t', t' < q → it r t' x ≤ it r t x := fun q => by
        induction q with
        | zero => intro h; omega
        | succ q ih =>
          intro _
          by_cases hq : q = 0
          · subst hq
            exact ⟨0, by omega, fun t' ht' => by rw [show t' = 0 by omega]; exact Nat.le_refl _⟩
          · obtain ⟨t, g1, g2⟩ := ih (by omega)
            by_cases hc : it r t x ≤ it r q x
            · refine ⟨q, by omega, fun t' ht' => ?_⟩
              by_cases ht : t' = q
              · subst ht; exact Nat.le_refl _
              · exact Nat.le_trans (g2 t' (by omega)) hc
            · refine ⟨t, by omega, fun t' ht' => ?_⟩
              by_cases ht : t' = q
              · subst ht; omega
              · exact g2 t' (by omega)
      obtain ⟨t, g1, g2⟩ := mx (j - i) (by omega)
      have top : ∀ k, it r k x ≤ it r t x := all (fun y => y ≤ it r t x) g2
      have xN : x ≤ N := by rw [← hx]; exact inr i _ (by omega)
      obtain ⟨u, hu⟩ : ∃ u, it r t x = u + 1 := ⟨it r t x - 1, by have := nzx t; omega⟩
      have huN : u < N := by have := inr t x xN; omega
      have hit : ∀ k, it r k (u + 1) ≠ 0 ∧ it r k (u + 1) ≤ u + 1 := fun k => by
        rw [← hu, ← it_add]
        exact ⟨nzx _, top _⟩
      have hru : r u ≠ 0 := by
        have := (hit 1).1
        rw [it_s r 0 (by omega)] at this
        exact this
      apply h u huN hru
      refine ld_hit r u (j - i - 1) 6 (r u) (by omega) ?_ (fun k => ?_)
      · have : it r (j - i) (u + 1) = u + 1 := by
          rw [← hu, ← it_add, per]
        rw [show j - i = (j - i - 1) + 1 by omega, it_s r _ (by omega)] at this
        exact this
      · have := hit (k + 1)
        rw [it_s r k (by omega)] at this
        exact this
/-! digits -/
def pd (B c w u : Nat) : Nat := c / B ^ (w - 1 - u) % B
theorem pd_lt {B : Nat} (hB : 0 < B) (c w u : Nat) : pd B c w u < B := Nat.mod_lt _ hB
theorem pd_last {B e : Nat} (he : e < B) (c w : Nat) : pd B (c * B + e) (w + 1) w = e := by
  unfold pd
  rw [show w + 1 - 1 - w = 0 by omega, Nat.pow_zero, Nat.div_one, Nat.add_comm, Nat.add_mul_mod_self_right, Nat.mod_eq_of_lt he]
theorem pd_pre {B d : Nat} (hB : 0 < B) {x : Nat} (hx : x < B ^ d) (c : Nat) {w u : Nat} (hu : u < w) : pd B (c * B ^ d + x) (w + d) u = pd B c w u := by
  unfold pd
  rw [show w + d - 1 - u = d + (w - 1 - u) by omega, Nat.pow_add, ← Nat.div_div_eq_div_mul, Nat.add_comm (c * B ^ d), Nat.add_mul_div_right _ _ (Nat.pow_pos hB), Nat.div_eq_of_lt hx, Nat.zero_add]
theorem pd_step {B e : Nat} (he : e < B) (c : Nat) {w u : Nat} (hu : u < w) : pd B (c * B + e) (w + 1) u = pd B c w u := by
  have := pd_pre (B := B) (d := 1) (by omega) (x := e) (by rw [Nat.pow_one]; exact he) c hu
  rw [Nat.pow_one] at this
  exact this
/-! the best of many, the first of the best -/
noncomputable def fdB (V : Nat → Prop) (bg : Nat → Nat) : Nat → Nat → Nat × Nat → Nat × Nat
  | _, 0, acc => acc
  | lo, cnt + 1, acc => fdB V bg (lo + 1) cnt (@ite _ (V lo ∧ bg lo < acc.1) (Classical.propDecidable _) (bg lo, lo) acc)
theorem fdB_s (V : Nat → Prop) (bg : Nat → Nat) (lo cnt : Nat) (acc : Nat × Nat) : fdB V bg lo (cnt + 1) acc = fdB V bg (lo + 1) cnt (@ite _ (V lo ∧ bg lo < acc.1) (Classical.propDecidable _) (bg lo, lo) acc) := rfl
theorem fdB_split (V : Nat → Prop) (bg : Nat → Nat) : ∀ (a b lo : Nat) (acc : Nat × Nat), fdB V bg lo (a + b) acc = fdB V bg (lo + a) b (fdB V bg lo a acc)
  | 0, b, lo, acc => by rw [Nat.zero_add]; rfl
  | a + 1, b, lo, acc => by
    rw [show a + 1 + b = (a + b) + 1 by omega, fdB_s, fdB_s, fdB_split V bg a b, show lo + 1 + a = lo + (a + 1) by omega]
theorem fdB_skip (V : Nat → Prop) (bg : Nat → Nat) : ∀ (cnt lo : Nat) (acc : Nat × Nat), (∀ x, x < cnt → ¬ (V (lo + x) ∧ bg (lo + x) < acc.1)) → fdB V bg lo cnt acc = acc
  | 0, _, _, _ => rfl
  | cnt + 1, lo, acc, h => by
    rw [fdB_s, if_neg (show ¬ (V lo ∧ bg lo < acc.1) from h 0 (by omega))]
    exact fdB_skip V bg cnt (lo + 1) acc (fun x hx => by have := h (x + 1) (by omega); rw [show lo + 1 + x = lo + (x + 1) by omega]; exact this)
theorem fdB_one {V : Nat → Prop} {bg : Nat → Nat} {lo : Nat} {acc : Nat × Nat} (h : V lo ∧ bg lo < acc.1) : fdB V bg lo 1 acc = (bg lo, lo) := by
  rw [fdB_s, if_pos h]; rfl
theorem fdB_le (V : Nat → Prop) (bg : Nat → Nat) : ∀ (cnt lo : Nat) (acc : Nat × Nat), (fdB V bg lo cnt acc).1 ≤ acc.1
  | 0, _, _ => Nat.le_refl _
  | cnt + 1, lo, acc => by
    rw [fdB_s]
    by_cases c : V lo ∧ bg lo < acc.1
    · rw [if_pos c]; exact Nat.le_trans (fdB_le V bg cnt (lo + 1) _) (by show bg lo ≤ acc.1; omega)
    · rw [if_neg c]; exact fdB_le V bg cnt (lo + 1) acc
/-! rows that may stand: A is what each may follow -/
/-- ahead of w all is well -/
def PV (A : Nat → Nat) (r : Nat → Nat) (w : Nat) : Prop := ∀ u, u < w → r u ≠ 0 → bt (A u) (r u - 1) = 1 ∧ (∀ v, v < u → r v ≠ r u) ∧ ld r u 6 (r u) ≠ u + 1
/-- the row of a code may stand -/
def VR (A : Nat → Nat) (N c : Nat) : Prop := PV A (pd (N + 1) c N) N
def nB (r : Nat → Nat) (w : Nat) : Nat := cntB (fun u => decide (r u = 0)) w
theorem nB_s (r : Nat → Nat) (w : Nat) : nB r (w + 1) = nB r w + (if r w = 0 then 1 else 0) := by
  unfold nB
  rw [cntB_s]
  by_cases h : r w = 0
  · rw [if_pos h, if_pos (by simp [h])]
  · rw [if_neg h, if_neg (by simp [h])]
theorem nB_cong {r r' : Nat → Nat} {w : Nat} (h : ∀ u, u < w → r u = r' u) : nB r w = nB r' w := cntB_cong (fun i hi => by rw [h i hi])
theorem nB_mono (r : Nat → Nat) {w : Nat} : ∀ d, nB r w ≤ nB r (w + d)
  | 0 => Nat.le_refl _
  | d + 1 => by
    rw [show w + (d + 1) = (w + d) + 1 by omega, nB_s]
    exact Nat.le_trans (nB_mono r d) (by omega)
theorem nB_le (r : Nat → Nat) (w : Nat) : nB r w ≤ w := cntB_le _ _
theorem PV.cong {A r r' : Nat → Nat} {w : Nat} (h : PV A r w) (e : ∀ u, u < w → r u = r' u) : PV A r' w := fun u hu h0 => by
  rw [← e u hu] at h0 ⊢
  obtain ⟨a1, a2, a3⟩ := h u hu h0
  refine ⟨a1, fun v hv => by rw [← e v (by omega)]; exact a2 v hv, ?_⟩
  rw [← ld_cong (fun x hx => e x (by omega))]; exact a3
end
