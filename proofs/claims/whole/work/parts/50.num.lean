/-! ===== pure: numbers ===== -/
section
theorem chk_t {c : Prop} {d : Decidable c} {β : Type} (h : c) (E : Option β) : @chk c d β E = E := if_pos h
theorem bnd {α β : Type} (a : α) (f : α → Option β) : (some a).bind f = f a := rfl
theorem ln_le {n k : Nat} (hn : (OfNat.ofNat n : Nat) < 2 ^ 31) (hk : k < 2 ^ 31) : ((OfNat.ofNat n : Int32) ≤ nI k) ↔ (OfNat.ofNat n : Nat) ≤ k := nI_leI (a := n) (b := k) hn hk
theorem nl_le {n k : Nat} (hn : (OfNat.ofNat n : Nat) < 2 ^ 31) (hk : k < 2 ^ 31) : (nI k ≤ (OfNat.ofNat n : Int32)) ↔ k ≤ (OfNat.ofNat n : Nat) := nI_leI (a := k) (b := n) hk hn
theorem ln_lt {n k : Nat} (hn : (OfNat.ofNat n : Nat) < 2 ^ 31) (hk : k < 2 ^ 31) : ((OfNat.ofNat n : Int32) < nI k) ↔ (OfNat.ofNat n : Nat) < k := nI_ltI (a := n) (b := k) hn hk
theorem nl_lt {n k : Nat} (hn : (OfNat.ofNat n : Nat) < 2 ^ 31) (hk : k < 2 ^ 31) : (nI k < (OfNat.ofNat n : Int32)) ↔ k < (OfNat.ofNat n : Nat) := nI_ltI (a := k) (b := n) hk hn
theorem ln_eq {n k : Nat} (hn : (OfNat.ofNat n : Nat) < 2 ^ 31) (hk : k < 2 ^ 31) : ((OfNat.ofNat n : Int32) = nI k) ↔ (OfNat.ofNat n : Nat) = k := nI_eq (a := n) (b := k) hn hk
theorem nl_eq {n k : Nat} (hn : (OfNat.ofNat n : Nat) < 2 ^ 31) (hk : k < 2 ^ 31) : (nI k = (OfNat.ofNat n : Int32)) ↔ k = (OfNat.ofNat n : Nat) := nI_eq (a := k) (b := n) hk hn
theorem nl_add (k n : Nat) : nI k + (OfNat.ofNat n : Int32) = nI (k + (OfNat.ofNat n : Nat)) := nI_add k n
theorem ln_add (k n : Nat) : (OfNat.ofNat n : Int32) + nI k = nI ((OfNat.ofNat n : Nat) + k) := nI_add n k
theorem nl_sub {k n : Nat} (h : (OfNat.ofNat n : Nat) ≤ k) : nI k - (OfNat.ofNat n : Int32) = nI (k - (OfNat.ofNat n : Nat)) := pk_sub h
theorem ln_mul (k n : Nat) : (OfNat.ofNat n : Int32) * nI k = nI ((OfNat.ofNat n : Nat) * k) := pk_mul n k
theorem nl_mul (k n : Nat) : nI k * (OfNat.ofNat n : Int32) = nI (k * (OfNat.ofNat n : Nat)) := pk_mul k n
theorem nl_rem {a d : Nat} (ha : a < 2 ^ 31) (h0 : 0 < (OfNat.ofNat d : Nat)) (hd : (OfNat.ofNat d : Nat) < 2 ^ 31) : nI a - nI a / (OfNat.ofNat d : Int32) * (OfNat.ofNat d : Int32) = nI (a % (OfNat.ofNat d : Nat)) := pk_rem ha h0 hd
theorem nl_div {a d : Nat} (ha : a < 2 ^ 31) (h0 : 0 < (OfNat.ofNat d : Nat)) (hd : (OfNat.ofNat d : Nat) < 2 ^ 31) : nI a / (OfNat.ofNat d : Int32) = nI (a / (OfNat.ofNat d : Nat)) := pk_div ha h0 hd
theorem ix_n {n : Nat} (h : n < 2 ^ 31) : ix (nI n) = n := nI_clamp h
theorem in_n {c N : Nat} (h : c < N) (hN : N < 2 ^ 31) : inb (nI c) N := nI_in h hN
theorem n_zero {k : Nat} (hk : k < 2 ^ 31) : (nI k = 0) ↔ k = 0 := nl_eq (by decide) hk
theorem n_neg1 {k : Nat} (hk : k < 2 ^ 31) : ¬ nI k = (-1 : Int32) := by
  intro h
  have h2 := congrArg Int32.toInt h
  rw [nI_toInt hk] at h2
  have h3 : (-1 : Int32).toInt = -1 := by decide
  omega
theorem n_pos {k : Nat} (hk : k < 2 ^ 31) : ¬ nI k < 0 := nI_pos hk
theorem m1_neg : (-1 : Int32) < 0 := by decide
/-- somebody or nobody: 0 is nobody -/
def hI (h : Nat) : Int32 := nI h - 1
theorem hI_0 : hI 0 = -1 := by decide
theorem hI_s (q : Nat) : hI (q + 1) = nI q := nI_pred q
theorem hI_none {h : Nat} (hh : h < 2 ^ 31) : (hI h = (-1 : Int32)) ↔ h = 0 := by
  cases h with
  | zero => simp [hI_0]
  | succ q =>
    rw [hI_s]
    constructor
    · intro h; exact absurd h (n_neg1 (by omega))
    · intro h; omega
theorem hI_n {h q : Nat} (hh : h < 2 ^ 31) (hq : q < 2 ^ 31) : (hI h = nI q) ↔ h = q + 1 := by
  cases h with
  | zero =>
    rw [hI_0]
    constructor
    · intro h; exact absurd h.symm (n_neg1 hq)
    · intro h; omega
  | succ p =>
    rw [hI_s, nI_eq (by omega) hq]
    omega
theorem hI_inj {h g : Nat} (hh : h < 2 ^ 31) (hg : g < 2 ^ 31) : (hI h = hI g) ↔ h = g := by
  cases g with
  | zero => rw [hI_0, hI_none hh]
  | succ q => rw [hI_s, hI_n hh (by omega)]
theorem hI_in {h N : Nat} (h0 : h ≠ 0) (hN : h ≤ N) (hb : N < 2 ^ 31) : inb (hI h) N := by
  cases h with
  | zero => exact absurd rfl h0
  | succ q => rw [hI_s]; exact in_n (by omega) hb
theorem hI_ix {h : Nat} (h0 : h ≠ 0) (hh : h < 2 ^ 31) : ix (hI h) = h - 1 := by
  cases h with
  | zero => exact absurd rfl h0
  | succ q => rw [hI_s, ix_n (by omega)]; omega
theorem hI_pos {h : Nat} (h0 : h ≠ 0) (hh : h < 2 ^ 31) : hI h = nI (h - 1) := by
  cases h with
  | zero => exact absurd rfl h0
  | succ q => rw [hI_s]; rfl
/-! the same within a choice -/
theorem ite_iff {α : Type} {c d : Prop} {i : Decidable c} {j : Decidable d} (h : c ↔ d) (x y : α) : @ite α c i x y = @ite α d j x y := by
  by_cases hc : c
  · rw [if_pos hc, if_pos (h.mp hc)]
  · rw [if_neg hc, if_neg (fun q => hc (h.mpr q))]
section
variable {α : Type} {a b n k : Nat} {x y : α}
theorem q_le (ha : a < 2 ^ 31) (hb : b < 2 ^ 31) : (if nI a ≤ nI b then x else y) = if a ≤ b then x else y := ite_iff (nI_leI ha hb) x y
theorem q_lt (ha : a < 2 ^ 31) (hb : b < 2 ^ 31) : (if nI a < nI b then x else y) = if a < b then x else y := ite_iff (nI_ltI ha hb) x y
theorem q_eq (ha : a < 2 ^ 31) (hb : b < 2 ^ 31) : (if nI a = nI b then x else y) = if a = b then x else y := ite_iff (nI_eq ha hb) x y
theorem q_ln_le (hn : (OfNat.ofNat n : Nat) < 2 ^ 31) (hk : k < 2 ^ 31) : (if (OfNat.ofNat n : Int32) ≤ nI k then x else y) = if (OfNat.ofNat n : Nat) ≤ k then x else y := ite_iff (ln_le hn hk) x y
theorem q_nl_le (hn : (OfNat.ofNat n : Nat) < 2 ^ 31) (hk : k < 2 ^ 31) : (if nI k ≤ (OfNat.ofNat n : Int32) then x else y) = if k ≤ (OfNat.ofNat n : Nat) then x else y := ite_iff (nl_le hn hk) x y
theorem q_ln_lt (hn : (OfNat.ofNat n : Nat) < 2 ^ 31) (hk : k < 2 ^ 31) : (if (OfNat.ofNat n : Int32) < nI k then x else y) = if (OfNat.ofNat n : Nat) < k then x else y := ite_iff (ln_lt hn hk) x y
theorem q_nl_lt (hn : (OfNat.ofNat n : Nat) < 2 ^ 31) (hk : k < 2 ^ 31) : (if nI k < (OfNat.ofNat n : Int32) then x else y) = if k < (OfNat.ofNat n : Nat) then x else y := ite_iff (nl_lt hn hk) x y
theorem q_nl_eq (hn : (OfNat.ofNat n : Nat) < 2 ^ 31) (hk : k < 2 ^ 31) : (if nI k = (OfNat.ofNat n : Int32) then x else y) = if k = (OfNat.ofNat n : Nat) then x else y := ite_iff (nl_eq hn hk) x y
theorem q_zero (hk : k < 2 ^ 31) : (if nI k = 0 then x else y) = if k = 0 then x else y := ite_iff (n_zero hk) x y
theorem q_none (hk : k < 2 ^ 31) : (if hI k = (-1 : Int32) then x else y) = if k = 0 then x else y := ite_iff (hI_none hk) x y
theorem q_hn (ha : a < 2 ^ 31) (hb : b < 2 ^ 31) : (if hI a = nI b then x else y) = if a = b + 1 then x else y := ite_iff (hI_n ha hb) x y
end
/-! sums along a row -/
def sumU (f : Nat → Nat) : Nat → Nat → Nat
  | _, 0 => 0
  | k, j + 1 => f k + sumU f (k + 1) j
theorem sumU_cong {f g : Nat → Nat} : ∀ (j k : Nat), (∀ i, k ≤ i → i < k + j → f i = g i) → sumU f k j = sumU g k j
  | 0, _, _ => rfl
  | j + 1, k, h => by
    unfold sumU
    rw [h k (by omega) (by omega), sumU_cong j (k + 1) (fun i h1 h2 => h i (by omega) (by omega))]
theorem sumU_zero {f : Nat → Nat} : ∀ (j k : Nat), (∀ i, k ≤ i → i < k + j → f i = 0) → sumU f k j = 0
  | 0, _, _ => rfl
  | j + 1, k, h => by
    unfold sumU
    rw [h k (by omega) (by omega), sumU_zero j (k + 1) (fun i h1 h2 => h i (by omega) (by omega))]
theorem sumU_split {f : Nat → Nat} (m : Nat) : ∀ (j k : Nat), sumU f k (j + m) = sumU f k j + sumU f (k + j) m
  | 0, k => by simp [sumU]
  | j + 1, k => by
    rw [show j + 1 + m = (j + m) + 1 by omega]
    have e1 : sumU f k (j + m + 1) = f k + sumU f (k + 1) (j + m) := rfl
    have e2 : sumU f k (j + 1) = f k + sumU f (k + 1) j := rfl
    rw [e1, e2, sumU_split m j (k + 1), show k + 1 + j = k + (j + 1) by omega, Nat.add_assoc]
theorem sumU_last {f : Nat → Nat} (k j : Nat) : sumU f k (j + 1) = sumU f k j + f (k + j) := by
  rw [sumU_split 1 j k]
  simp [sumU]
theorem sumU_le {f : Nat → Nat} (c : Nat) : ∀ (j k : Nat), (∀ i, k ≤ i → i < k + j → f i ≤ c) → sumU f k j ≤ c * j
  | 0, _, _ => by simp [sumU]
  | j + 1, k, h => by
    unfold sumU
    have h1 := h k (by omega) (by omega)
    have h2 := sumU_le c j (k + 1) (fun i h1 h2 => h i (by omega) (by omega))
    rw [Nat.mul_succ]
    omega
/-! sets of at most six, as bits -/
def msk (p : Nat → Bool) (k : Nat) : Nat := sumU (fun i => if p i then 2 ^ i else 0) 0 k
def cntB (p : Nat → Bool) (k : Nat) : Nat := sumU (fun i => if p i then 1 else 0) 0 k
theorem msk_s (p : Nat → Bool) (k : Nat) : msk p (k + 1) = msk p k + (if p k then 2 ^ k else 0) := by
  unfold msk
  rw [sumU_last, Nat.zero_add]
theorem cntB_s (p : Nat → Bool) (k : Nat) : cntB p (k + 1) = cntB p k + (if p k then 1 else 0) := by
  unfold cntB
  rw [sumU_last, Nat.zero_add]
theorem msk_lt (p : Nat → Bool) : ∀ k, msk p k < 2 ^ k
  | 0 => by simp [msk, sumU]
  | k + 1 => by
    have := msk_lt p k
    rw [msk_s, Nat.pow_succ]
    split <;> omega
/-- one bit -/
def bt (s w : Nat) : Nat := s / 2 ^ w % 2
def clr (s w : Nat) : Nat := s - bt s w * 2 ^ w
def set1 (s w : Nat) : Nat := s + (1 - bt s w) * 2 ^ w
def pc (m : Nat) : Nat := bt m 0 + bt m 1 + bt m 2 + bt m 3 + bt m 4 + bt m 5
theorem bt_lt (s w : Nat) : bt s w < 2 := Nat.mod_lt _ (by decide)
theorem b_or : ∀ k, k < 6 → ∀ m, m < 2 ^ k → (nI m ||| ((1 : Int32) <<< (nI k &&& 31))) = nI (m + 2 ^ k) := by decide +kernel
theorem b_get : ∀ s, s < 64 → ∀ w, w < 6 → ((nI s >>> (nI w &&& 31)) &&& (1 : Int32)) = nI (bt s w) := by decide +kernel
theorem b_clr : ∀ s, s < 64 → ∀ w, w < 6 → (nI s &&& (((1 : Int32) <<< (nI w &&& 31)) ^^^ (-1 : Int32))) = nI (clr s w) := by decide +kernel
theorem b_set : ∀ s, s < 64 → ∀ w, w < 6 → (nI s ||| ((1 : Int32) <<< (nI w &&& 31))) = nI (set1 s w) := by decide +kernel
theorem b_clr_lt : ∀ s, s < 64 → ∀ w, w < 6 → clr s w < 64 := by decide +kernel
theorem b_set_lt : ∀ s, s < 64 → ∀ w, w < 6 → set1 s w < 64 := by decide +kernel
theorem b_clr_bt : ∀ s, s < 64 → ∀ w, w < 6 → ∀ v, v < 6 → bt (clr s w) v = if v = w then 0 else bt s v := by decide +kernel
theorem b_set_bt : ∀ s, s < 64 → ∀ w, w < 6 → ∀ v, v < 6 → bt (set1 s w) v = if v = w then 1 else bt s v := by decide +kernel
theorem b_zero : ∀ s, s < 64 → (∀ w, w < 6 → bt s w = 0) → s = 0 := by decide +kernel
theorem b_or_pc : ∀ k, k < 6 → ∀ m, m < 2 ^ k → pc (m + 2 ^ k) = pc m + 1 := by decide +kernel
theorem b_or_bt : ∀ k, k < 6 → ∀ m, m < 2 ^ k → ∀ i, i < 6 → bt (m + 2 ^ k) i = if i = k then 1 else bt m i := by decide +kernel
theorem b_hi : ∀ k, k < 6 → ∀ m, m < 2 ^ k → ∀ i, i < 6 → k ≤ i → bt m i = 0 := by decide +kernel
theorem b_pc_le : ∀ m, m < 64 → pc m ≤ 6 := by decide +kernel
theorem msk_lt64 (p : Nat → Bool) {k : Nat} (hk : k ≤ 6) : msk p k < 64 := Nat.lt_of_lt_of_le (msk_lt p k) (Nat.pow_le_pow_right (n := 2) (by decide) hk)
theorem msk_pc (p : Nat → Bool) : ∀ k, k ≤ 6 → pc (msk p k) = cntB p k
  | 0, _ => by show pc 0 = 0; decide
  | k + 1, hk => by
    have ih := msk_pc p k (by omega)
    rw [msk_s, cntB_s]
    by_cases hp : p k = true
    · rw [if_pos hp, if_pos hp, b_or_pc k (by omega) _ (msk_lt p k), ih]
    · rw [if_neg hp, if_neg hp, Nat.add_zero, Nat.add_zero, ih]
theorem msk_bt (p : Nat → Bool) : ∀ k, k ≤ 6 → ∀ i, i < 6 → bt (msk p k) i = if i < k ∧ p i = true then 1 else 0
  | 0, _, i, hi => by simp [msk, sumU, bt]
  | k + 1, hk, i, hi => by
    have ih := msk_bt p k (by omega) i hi
    rw [msk_s]
    by_cases hp : p k = true
    · rw [if_pos hp, b_or_bt k (by omega) _ (msk_lt p k) i hi, ih]
      by_cases h : i = k
      · subst h; simp [hp]
      · have h2 : (i < k + 1) ↔ i < k := by omega
        simp only [h, if_false, h2]
    · rw [if_neg hp, Nat.add_zero, ih]
      by_cases h : i = k
      · subst h; simp [hp]
      · have h2 : (i < k + 1) ↔ i < k := by omega
        simp only [h2]
theorem cntB_cong {p q : Nat → Bool} {k : Nat} (h : ∀ i, i < k → p i = q i) : cntB p k = cntB q k := by
  unfold cntB
  exact sumU_cong k 0 (fun i _ h2 => by rw [h i (by omega)])
theorem msk_cong {p q : Nat → Bool} {k : Nat} (h : ∀ i, i < k → p i = q i) : msk p k = msk q k := by
  unfold msk
  exact sumU_cong k 0 (fun i _ h2 => by rw [h i (by omega)])
theorem cntB_up {p : Nat → Bool} {k : Nat} (m : Nat) (h : ∀ i, k ≤ i → i < k + m → p i = false) : cntB p (k + m) = cntB p k := by
  unfold cntB
  rw [sumU_split m k 0, sumU_zero m (0 + k) (fun i h1 h2 => by rw [h i (by omega) (by omega)]; rfl), Nat.add_zero]
theorem msk_up {p : Nat → Bool} {k : Nat} (m : Nat) (h : ∀ i, k ≤ i → i < k + m → p i = false) : msk p (k + m) = msk p k := by
  unfold msk
  rw [sumU_split m k 0, sumU_zero m (0 + k) (fun i h1 h2 => by rw [h i (by omega) (by omega)]; rfl), Nat.add_zero]
theorem cntB_le (p : Nat → Bool) (k : Nat) : cntB p k ≤ k := by
  have := sumU_le (f := fun i => if p i then 1 else 0) 1 k 0 (fun i _ _ => by show (if p i then 1 else 0) ≤ 1; split <;> omega)
  unfold cntB
  omega
end
