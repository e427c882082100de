/-! ===== pure: leaves of both sides ===== -/
section
theorem FU_big : 900000 < FU := by unfold FU; omega
theorem sgn_i (x : Int32) : (0 ≤ x) ↔ x.toBitVec.msb = false := BitVec.zero_sle_iff_msb_eq_false
theorem xor_24 (x : Int32) : (0 ≤ x ^^^ (24 : Int32)) ↔ 0 ≤ x := by
  rw [sgn_i, sgn_i, Int32.toBitVec_xor, BitVec.msb_xor, show (24 : Int32).toBitVec.msb = false from by decide, Bool.xor_false]
theorem rem24 (x : Int32) (h1 : -1000000 ≤ x.toInt) (h2 : x.toInt < 1000000) : (x - x / 24 * 24).toInt = x.toInt - x.toInt.tdiv 24 * 24 := by
  have e : (x / 24).toInt = x.toInt.tdiv 24 := by
    rw [Int32.toInt_div_of_ne_right _ _ (by decide)]
    rfl
  have hb : -1000000 ≤ x.toInt.tdiv 24 * 24 ∧ x.toInt.tdiv 24 * 24 < 1000000 := by
    rcases Int.le_total 0 x.toInt with h | h
    · rw [Int.tdiv_eq_ediv_of_nonneg h]; omega
    · have : x.toInt.tdiv 24 = -((-x.toInt) / 24) := by
        rw [← Int.tdiv_eq_ediv_of_nonneg (by omega : 0 ≤ -x.toInt), Int.neg_tdiv, Int.neg_neg]
      rw [this]; omega
  have m : (x / 24 * 24).toInt = x.toInt.tdiv 24 * 24 := by
    rw [Int32.toInt_mul, e, show (24 : Int32).toInt = 24 from by decide]
    exact Int.bmod_eq_of_le (by omega) (by omega)
  rw [Int32.toInt_sub, m]
  exact Int.bmod_eq_of_le (by omega) (by omega)
theorem fmod24 (x : Int32) (h1 : -1000000 ≤ x.toInt) (h2 : x.toInt < 1000000) : f_J9_floorMod_7cf53 x 24 = some (nI (x.toInt % 24).toNat) := by
  have hr := rem24 x h1 h2
  have hz : (0 : Int32).toInt = 0 := by decide
  unfold f_J9_floorMod_7cf53 b_J9_floorMod_7cf53_0 b_J9_floorMod_7cf53_18
  rw [chk_t (by decide)]
  by_cases h : 0 ≤ x
  · rw [if_pos ((xor_24 x).mpr h)]
    rw [Int32.le_iff_toInt_le, hz] at h
    congr 1
    apply Int32.toInt_inj.mp
    rw [hr, nI_toInt (by omega), Int.tdiv_eq_ediv_of_nonneg h]
    omega
  · rw [if_neg (fun q => h ((xor_24 x).mp q))]
    rw [Int32.le_iff_toInt_le, hz] at h
    have ht : x.toInt.tdiv 24 = -((-x.toInt) / 24) := by
      rw [← Int.tdiv_eq_ediv_of_nonneg (by omega : 0 ≤ -x.toInt), Int.neg_tdiv, Int.neg_neg]
    rw [ht] at hr
    by_cases h0 : x - x / 24 * 24 = 0
    · rw [if_pos h0]
      have := congrArg Int32.toInt h0
      rw [hr, hz] at this
      congr 1
      apply Int32.toInt_inj.mp
      rw [hr, nI_toInt (by omega)]
      omega
    · rw [if_neg h0]
      have hne : (x - x / 24 * 24).toInt ≠ 0 := fun e => h0 (Int32.toInt_inj.mp (e.trans hz.symm))
      congr 1
      apply Int32.toInt_inj.mp
      rw [Int32.toInt_add, show (24 : Int32).toInt = 24 from by decide, nI_toInt (by omega), Int.bmod_eq_of_le (by omega) (by omega)]
      omega
theorem fm_sub {t f : Nat} (hf : f ≤ 5000) (ht : t ≤ 5000) : f_J9_floorMod_7cf53 (nI t - nI f) 24 = some (nI ((t + 24 * f - f) % 24)) := by
  have e : (nI t - nI f).toInt = (t : Int) - f := pk_sub_toInt (by omega) (by omega)
  rw [fmod24 _ (by omega) (by omega), e]
  congr 2
  omega
/-- asleep -/
def asl (f s t : Nat) : Nat := if (t + 24 - f) % 24 < s then 1 else 0
theorem x_asleep {σ : MS} {p f s t : Nat} (hp : p < 4) (h1 : sI σ 26 p = nI f) (h2 : sI σ 27 p = nI s) (hf : f ≤ 23) (hs : s ≤ 24) (ht : t ≤ 5000) : f_X3_isAsleep (nI p) (nI t) σ = some (nI (asl f s t)) := by
  unfold f_X3_isAsleep b_X3_isAsleep_0 b_X3_isAsleep_27
  rw [chk_t (in_n hp (by decide)), ix_n (by omega), h1, h2, fm_sub (by omega) ht, bnd, chk_t (in_n hp (by decide))]
  unfold asl
  have e : (t + 24 * f - f) % 24 = (t + 24 - f) % 24 := by omega
  rw [e, q_le (by omega) (by omega)]
  by_cases h : (t + 24 - f) % 24 < s
  · rw [if_neg (by omega), if_pos h, chk_t (Or.inr rfl)]; rfl
  · rw [if_pos (by omega), if_neg h, chk_t (Or.inl rfl)]; rfl
theorem n_sa (a b c : Nat) (h : b ≤ a + c) : nI a - nI b + nI c = nI (a + c - b) := by
  rw [Int32.sub_eq_add_neg, Int32.add_assoc, Int32.add_comm (-nI b), ← Int32.add_assoc, ← Int32.sub_eq_add_neg, nI_add, pk_sub h]
theorem m_asleep {σ : MS} {p f s t : Nat} (hp : p < 4) (h1 : sI σ 5 p = nI f) (h2 : sI σ 6 p = nI s) (hf : f ≤ 23) (hs : s ≤ 24) (ht : t ≤ 5000) : f_X12_isAsleep (nI p) (nI t) σ = some (nI (asl f s t)) := by
  unfold f_X12_isAsleep b_X12_isAsleep_0 b_X12_isAsleep_18 b_X12_isAsleep_33
  have e : nI (t % 24) - nI f + (24 : Int32) = nI (t % 24 + 24 - f) := n_sa (t % 24) f 24 (by omega)
  rw [chk_t (in_n hp (by decide)), ix_n (by omega), h1, h2, nl_rem (by omega) (by decide) (by decide), e, nl_rem (by omega) (by decide) (by decide), chk_t (in_n hp (by decide))]
  unfold asl
  have e : (t % 24 + 24 - f) % 24 = (t + 24 - f) % 24 := by omega
  rw [e, q_le (by omega) (by omega)]
  by_cases h : (t + 24 - f) % 24 < s
  · rw [if_neg (by omega), if_pos h, chk_t (Or.inr rfl)]; rfl
  · rw [if_pos (by omega), if_neg h, chk_t (Or.inl rfl)]; rfl
theorem asl_01 (f s t : Nat) : asl f s t = 0 ∨ asl f s t = 1 := by
  unfold asl; split <;> simp
/-- hours awake, for one who is awake -/
def awk (f s t : Nat) : Nat := if s = 0 then 24 else (f + 24 * t - t) % 24
theorem x_hoursAwake {σ : MS} {p f s t : Nat} (hp : p < 4) (h1 : sI σ 26 p = nI f) (h2 : sI σ 27 p = nI s) (hf : f ≤ 23) (hs : s ≤ 24) (ht : t ≤ 5000) : f_X3_hoursAwake (nI p) (nI t) σ = some (nI (awk f s t)) := by
  unfold f_X3_hoursAwake b_X3_hoursAwake_0 b_X3_hoursAwake_27
  rw [chk_t (in_n hp (by decide)), ix_n (by omega), h1, h2, q_zero (by omega)]
  unfold awk
  by_cases h : s = 0
  · rw [if_pos h, if_pos h]; rfl
  · rw [if_neg h, if_neg h, chk_t (in_n hp (by decide)), fm_sub (by omega) (by omega), bnd]
theorem m_awakeFor_loop {σ : MS} {p f s t : Nat} (hp : p < 4) (h1 : sI σ 5 p = nI f) (h2 : sI σ 6 p = nI s) (hf : f ≤ 23) (hs : s ≤ 24) (ht : t ≤ 3000) (ha : asl f s t = 0) : ∀ (j k n : Nat), k + j = awk f s t → j < n → b_X12_awakeFor_2 n (nI p) (nI t) (nI k) σ = some (nI (awk f s t))
  | 0, k, n + 1, hk, _ => by
    unfold b_X12_awakeFor_2 b_X12_awakeFor_25
    have hle : awk f s t ≤ 24 := by unfold awk; split <;> omega
    rw [q_ln_le (by omega) (by omega)]
    by_cases h : 24 ≤ k
    · rw [if_pos h, ← hk]; rfl
    · rw [if_neg h, nI_add, m_asleep hp h1 h2 hf hs (by omega), bnd]
      have : asl f s (t + k) = 1 := by
        unfold asl at ha ⊢
        unfold awk at hk
        by_cases hs0 : s = 0
        · rw [if_pos hs0] at hk; omega
        · rw [if_neg hs0] at hk
          rw [if_pos (by omega)]
      rw [this, if_neg (by decide), ← hk]; rfl
  | j + 1, k, n + 1, hk, hn => by
    unfold b_X12_awakeFor_2 b_X12_awakeFor_25
    have hle : awk f s t ≤ 24 := by unfold awk; split <;> omega
    have : asl f s (t + k) = 0 := by
      unfold asl at ha ⊢
      unfold awk at hk
      by_cases hs0 : s = 0
      · rw [if_neg (by omega)]
      · rw [if_neg hs0] at hk
        by_cases hq : (t + 24 - f) % 24 < s
        · rw [if_pos hq] at ha; omega
        · rw [if_neg (by omega)]
    rw [q_ln_le (by omega) (by omega), if_neg (by omega), nI_add, m_asleep hp h1 h2 hf hs (by omega), bnd, this, if_pos (by decide), nI_1]
    exact m_awakeFor_loop hp h1 h2 hf hs ht ha j (k + 1) n (by omega) (by omega)
  | _, _, 0, _, hn => absurd hn (Nat.not_lt_zero _)
theorem m_awakeFor {σ : MS} {p f s t : Nat} (hp : p < 4) (h1 : sI σ 5 p = nI f) (h2 : sI σ 6 p = nI s) (hf : f ≤ 23) (hs : s ≤ 24) (ht : t ≤ 3000) (ha : asl f s t = 0) : f_X12_awakeFor (nI p) (nI t) σ = some (nI (awk f s t)) := by
  have hle : awk f s t ≤ 24 := by unfold awk; split <;> omega
  exact m_awakeFor_loop hp h1 h2 hf hs ht ha (awk f s t) 0 FU (by omega) (by have := FU_big; omega)
/-! counts -/
theorem x_bitCount : ∀ m, m < 64 → f_J6_bitCount_0f7a4 (nI m) = some (nI (pc m)) := by decide +kernel
theorem m_bits : ∀ m, m < 64 → f_X12_bits (nI m) = some (nI (pc m)) := by decide +kernel
theorem x_min {a b : Nat} (ha : a < 2 ^ 31) (hb : b < 2 ^ 31) : f_J9_min_7cf53 (nI a) (nI b) = some (nI (min a b)) := by
  unfold f_J9_min_7cf53 b_J9_min_7cf53_0 b_J9_min_7cf53_10
  rw [q_lt hb ha]
  by_cases h : b < a
  · rw [if_pos h, Nat.min_eq_right (by omega)]
  · rw [if_neg h, Nat.min_eq_left (by omega)]
theorem x_max {a b : Nat} (ha : a < 2 ^ 31) (hb : b < 2 ^ 31) : f_J9_max_7cf53 (nI a) (nI b) = some (nI (max a b)) := by
  unfold f_J9_max_7cf53 b_J9_max_7cf53_0 b_J9_max_7cf53_10
  rw [q_lt ha hb]
  by_cases h : a < b
  · rw [if_pos h, Nat.max_eq_right (by omega)]
  · rw [if_neg h, Nat.max_eq_left (by omega)]
/-- who holds what -/
def hb (S : Row2) (q : Nat) : Nat → Bool := fun w => decide (S 0 w = q + 1)
def hg (S : Row2) : Nat → Bool := fun w => decide (S 0 w ≠ 0)
theorem x_load_loop {a : Nat} {σ : MS} {S : Row2} (h : SX a σ S) (hs : ∀ w, w < 6 → S 0 w < 2 ^ 31) {q : Nat} (hq : q < 2 ^ 31) : ∀ (j k n c : Nat), k + j = 6 → j < n → b_X8_load_4 a n (nI q) (nI c) (nI k) σ = some (nI (c + sumU (fun i => if hb S q i then 1 else 0) k j))
  | 0, k, n + 1, c, hk, _ => by
    unfold b_X8_load_4 sumU
    rw [q_ln_le (by omega) (by omega), if_pos (by omega)]; rfl
  | j + 1, k, n + 1, c, hk, hn => by
    unfold b_X8_load_4 b_X8_load_23 sumU
    rw [q_ln_le (by omega) (by omega), if_neg (by omega), chk_t (in_n (by omega) (by decide)), ix_n (by omega), (h.1 k (by omega)).1, q_hn (hs k (by omega)) hq]
    unfold hb
    by_cases e : S 0 k = q + 1
    · rw [if_pos e, if_pos (decide_eq_true e), nI_1, nI_1, x_load_loop h hs hq j (k + 1) n (c + 1) (by omega) (by omega), Nat.add_assoc]; rfl
    · rw [if_neg e, if_neg (by simp [e]), nI_1, x_load_loop h hs hq j (k + 1) n c (by omega) (by omega), Nat.zero_add]; rfl
  | _, _, 0, _, _, hn => absurd hn (Nat.not_lt_zero _)
theorem x_load {a : Nat} {σ : MS} {S : Row2} (h : SX a σ S) (hs : ∀ w, w < 6 → S 0 w < 2 ^ 31) {q : Nat} (hq : q < 2 ^ 31) : f_X8_load a (nI q) σ = some (nI (cntB (hb S q) 6)) := by
  have := x_load_loop h hs hq 6 0 FU 0 rfl (by have := FU_big; omega)
  rw [Nat.zero_add] at this
  exact this
theorem x_heldBy_loop {a : Nat} {σ : MS} {S : Row2} (h : SX a σ S) (hs : ∀ w, w < 6 → S 0 w < 2 ^ 31) {q : Nat} (hq : q < 2 ^ 31) : ∀ (j k n : Nat), k + j = 6 → j < n → b_X8_worksHeldBy_4 a n (nI q) (nI (msk (hb S q) k)) (nI k) σ = some (nI (msk (hb S q) 6))
  | 0, k, n + 1, hk, _ => by
    unfold b_X8_worksHeldBy_4
    rw [q_ln_le (by omega) (by omega), if_pos (by omega), show k = 6 by omega]
  | j + 1, k, n + 1, hk, hn => by
    have ih := x_heldBy_loop h hs hq j (k + 1) n (by omega) (by omega)
    rw [msk_s] at ih
    unfold b_X8_worksHeldBy_4 b_X8_worksHeldBy_26
    rw [q_ln_le (by omega) (by omega), if_neg (by omega), chk_t (in_n (by omega) (by decide)), ix_n (by omega), (h.1 k (by omega)).1, q_hn (hs k (by omega)) hq]
    by_cases e : S 0 k = q + 1
    · rw [if_pos (show hb S q k = true from decide_eq_true e)] at ih
      rw [if_pos e, nI_1, b_or k (by omega) _ (msk_lt _ k), ih]
    · rw [if_neg (show ¬ hb S q k = true by simp [hb, e]), Nat.add_zero] at ih
      rw [if_neg e, nI_1, ih]
  | _, _, 0, _, hn => absurd hn (Nat.not_lt_zero _)
theorem x_heldBy {a : Nat} {σ : MS} {S : Row2} (h : SX a σ S) (hs : ∀ w, w < 6 → S 0 w < 2 ^ 31) {q : Nat} (hq : q < 2 ^ 31) : f_X8_worksHeldBy a (nI q) σ = some (nI (msk (hb S q) 6)) :=
  x_heldBy_loop h hs hq 6 0 FU rfl (by have := FU_big; omega)
theorem x_going_loop {a : Nat} {σ : MS} {S : Row2} (h : SX a σ S) (hs : ∀ w, w < 6 → S 0 w < 2 ^ 31) : ∀ (j k n : Nat), k + j = 6 → j < n → b_X8_worksThatGo_4 a n (nI (msk (hg S) k)) (nI k) σ = some (nI (msk (hg S) 6))
  | 0, k, n + 1, hk, _ => by
    unfold b_X8_worksThatGo_4
    rw [q_ln_le (by omega) (by omega), if_pos (by omega), show k = 6 by omega]
  | j + 1, k, n + 1, hk, hn => by
    have ih := x_going_loop h hs j (k + 1) n (by omega) (by omega)
    rw [msk_s] at ih
    unfold b_X8_worksThatGo_4 b_X8_worksThatGo_26
    rw [q_ln_le (by omega) (by omega), if_neg (by omega), chk_t (in_n (by omega) (by decide)), ix_n (by omega), (h.1 k (by omega)).1, q_none (hs k (by omega))]
    by_cases e : S 0 k = 0
    · rw [if_neg (show ¬ hg S k = true by simp [hg, e]), Nat.add_zero] at ih
      rw [if_pos e, nI_1, ih]
    · rw [if_pos (show hg S k = true from decide_eq_true e)] at ih
      rw [if_neg e, nI_1, b_or k (by omega) _ (msk_lt _ k), ih]
  | _, _, 0, _, hn => absurd hn (Nat.not_lt_zero _)
theorem x_going {a : Nat} {σ : MS} {S : Row2} (h : SX a σ S) (hs : ∀ w, w < 6 → S 0 w < 2 ^ 31) : f_X8_worksThatGo a σ = some (nI (msk (hg S) 6)) :=
  x_going_loop h hs 6 0 FU rfl (by have := FU_big; omega)
theorem n_or0 (a : Int32) : a ||| 0 = a := Int32.or_zero
theorem m_heldBy_loop {σ : MS} {P N : Nat} {S : Row2} (h : SM σ P N S) (hN : sI σ 1 4 = nI N) (hN6 : N ≤ 6) (hs : ∀ w, w < 6 → S 0 w < 2 ^ 31) {q : Nat} (hq : q < 2 ^ 31) : ∀ (j k n : Nat), k + j = N → j < n → b_X12_heldBy_4 n (nI q) (nI (msk (hb S q) k)) (nI k) σ = some (nI (msk (hb S q) N))
  | 0, k, n + 1, hk, _ => by
    unfold b_X12_heldBy_4
    rw [hN, q_le (by omega) (by omega), if_pos (by omega), show k = N by omega]
  | j + 1, k, n + 1, hk, hn => by
    have ih := m_heldBy_loop h hN hN6 hs hq j (k + 1) n (by omega) (by omega)
    rw [msk_s] at ih
    unfold b_X12_heldBy_4 b_X12_heldBy_32
    rw [hN, q_le (by omega) (by omega), if_neg (by omega), chk_t (in_n (by omega) (by decide)), ix_n (by omega), (h.1 k (by omega)).1, q_hn (hs k (by omega)) hq]
    by_cases e : S 0 k = q + 1
    · rw [if_pos (show hb S q k = true from decide_eq_true e)] at ih
      rw [if_pos e, nI_1, b_or k (by omega) _ (msk_lt _ k), ih]
    · rw [if_neg (show ¬ hb S q k = true by simp [hb, e]), Nat.add_zero] at ih
      rw [if_neg e, nI_1, n_or0, ih]
  | _, _, 0, _, hn => absurd hn (Nat.not_lt_zero _)
theorem m_heldBy {σ : MS} {P N : Nat} {S : Row2} (h : SM σ P N S) (hN : sI σ 1 4 = nI N) (hN6 : N ≤ 6) (hs : ∀ w, w < 6 → S 0 w < 2 ^ 31) {q : Nat} (hq : q < 2 ^ 31) : f_X12_heldBy (nI q) σ = some (nI (msk (hb S q) N)) :=
  m_heldBy_loop h hN hN6 hs hq N 0 FU (by omega) (by have := FU_big; omega)
theorem m_going_loop {σ : MS} {P N : Nat} {S : Row2} (h : SM σ P N S) (hN : sI σ 1 4 = nI N) (hN6 : N ≤ 6) (hs : ∀ w, w < 6 → S 0 w < 2 ^ 31) : ∀ (j k n : Nat), k + j = N → j < n → b_X12_going_4 n (nI (msk (hg S) k)) (nI k) σ = some (nI (msk (hg S) N))
  | 0, k, n + 1, hk, _ => by
    unfold b_X12_going_4
    rw [hN, q_le (by omega) (by omega), if_pos (by omega), show k = N by omega]
  | j + 1, k, n + 1, hk, hn => by
    have ih := m_going_loop h hN hN6 hs j (k + 1) n (by omega) (by omega)
    rw [msk_s] at ih
    unfold b_X12_going_4 b_X12_going_32
    rw [hN, q_le (by omega) (by omega), if_neg (by omega), chk_t (in_n (by omega) (by decide)), ix_n (by omega), (h.1 k (by omega)).1, q_none (hs k (by omega))]
    by_cases e : S 0 k = 0
    · rw [if_neg (show ¬ hg S k = true by simp [hg, e]), Nat.add_zero] at ih
      rw [if_pos e, nI_1, n_or0, ih]
    · rw [if_pos (show hg S k = true from decide_eq_true e)] at ih
      rw [if_neg e, nI_1, b_or k (by omega) _ (msk_lt _ k), ih]
  | _, _, 0, _, hn => absurd hn (Nat.not_lt_zero _)
theorem m_going {σ : MS} {P N : Nat} {S : Row2} (h : SM σ P N S) (hN : sI σ 1 4 = nI N) (hN6 : N ≤ 6) (hs : ∀ w, w < 6 → S 0 w < 2 ^ 31) : f_X12_going σ = some (nI (msk (hg S) N)) :=
  m_going_loop h hN hN6 hs N 0 FU (by omega) (by have := FU_big; omega)
theorem WS.hs {P N : Nat} {S : Row2} (h : WS P N S) (hP : P ≤ 4) : ∀ w, w < 6 → S 0 w < 2 ^ 31 := fun w hw => by
  have := (h.1 w hw).1
  omega
theorem WS.hb6 {P N : Nat} {S : Row2} (h : WS P N S) (hN : N ≤ 6) (q : Nat) : msk (hb S q) 6 = msk (hb S q) N ∧ cntB (hb S q) 6 = cntB (hb S q) N := by
  obtain ⟨m, hm⟩ : ∃ m, N + m = 6 := ⟨6 - N, by omega⟩
  have hz : ∀ i, N ≤ i → i < N + m → hb S q i = false := fun i h1 h2 => by
    have := (h.1 i (by omega)).2 h1
    simp [hb, this]
  rw [← hm]
  exact ⟨msk_up m hz, cntB_up m hz⟩
theorem WS.hg6 {P N : Nat} {S : Row2} (h : WS P N S) (hN : N ≤ 6) : msk (hg S) 6 = msk (hg S) N := by
  obtain ⟨m, hm⟩ : ∃ m, N + m = 6 := ⟨6 - N, by omega⟩
  rw [← hm]
  exact msk_up m (fun i h1 h2 => by
    have := (h.1 i (by omega)).2 h1
    simp [hg, this])
theorem m_held {σ : MS} {P N : Nat} {S : Row2} (h : SM σ P N S) (hN : sI σ 1 4 = nI N) (hN6 : N ≤ 6) (hP : P ≤ 4) (hw : WS P N S) {q : Nat} (hq : q < 2 ^ 31) : (f_X12_heldBy (nI q) σ).bind (fun r => f_X12_bits r) = some (nI (cntB (hb S q) 6)) := by
  rw [m_heldBy h hN hN6 (hw.hs hP) hq, bnd, m_bits _ (msk_lt64 _ hN6), msk_pc _ N hN6, (hw.hb6 hN6 q).2]
end
