/-! ===== pure: signs, numbers and words of a tape ===== -/
section
/-- a sign, 0 behind the end -/
def cc (T : Nat → Nat) (len i : Nat) : Nat := if i < len then T i + 1 else 0
def sk (p : Nat → Bool) : Nat → Nat → Nat
  | 0, i => i
  | j + 1, i => if p i then sk p j (i + 1) else i
theorem sk_le (p : Nat → Bool) : ∀ j i, i ≤ sk p j i ∧ sk p j i ≤ i + j
  | 0, i => ⟨Nat.le_refl _, Nat.le_refl _⟩
  | j + 1, i => by
    unfold sk
    split
    · have := sk_le p j (i + 1); omega
    · omega
theorem sk_in (p : Nat → Bool) : ∀ j i m, i ≤ m → m < sk p j i → p m = true
  | 0, i, m, h1, h2 => by
    have h2 : m < i := h2
    omega
  | j + 1, i, m, h1, h2 => by
    unfold sk at h2
    by_cases c : p i = true
    · rw [if_pos c] at h2
      by_cases e : m = i
      · subst e; exact c
      · exact sk_in p j (i + 1) m (by omega) h2
    · rw [if_neg c] at h2; omega
theorem sk_end (p : Nat → Bool) : ∀ j i, sk p j i < i + j → p (sk p j i) = false
  | 0, i, h => by
    have h : i < i + 0 := h
    omega
  | j + 1, i, h => by
    unfold sk at h ⊢
    by_cases c : p i = true
    · rw [if_pos c] at h ⊢
      exact sk_end p j (i + 1) (by omega)
    · rw [if_neg c]
      simpa using c
def isB (T : Nat → Nat) : Nat → Bool := fun i => decide (T i = 32)
def isD (T : Nat → Nat) : Nat → Bool := fun i => decide (48 ≤ T i ∧ T i ≤ 57)
def isL (T : Nat → Nat) : Nat → Bool := fun i => decide (97 ≤ T i ∧ T i ≤ 122)
def skB (T : Nat → Nat) (len i : Nat) : Nat := sk (isB T) (len - i) i
def skD (T : Nat → Nat) (len i : Nat) : Nat := sk (isD T) (len - i) i
def skL (T : Nat → Nat) (len i : Nat) : Nat := sk (isL T) (len - i) i
theorem skB_le (T : Nat → Nat) {len i : Nat} (h : i ≤ len) : i ≤ skB T len i ∧ skB T len i ≤ len := by
  have := sk_le (isB T) (len - i) i
  unfold skB; omega
theorem skD_le (T : Nat → Nat) {len i : Nat} (h : i ≤ len) : i ≤ skD T len i ∧ skD T len i ≤ len := by
  have := sk_le (isD T) (len - i) i
  unfold skD; omega
theorem skL_le (T : Nat → Nat) {len i : Nat} (h : i ≤ len) : i ≤ skL T len i ∧ skL T len i ≤ len := by
  have := sk_le (isL T) (len - i) i
  unfold skL; omega
theorem skB_n (T : Nat → Nat) {len i : Nat} (h : skB T len i < len) (hi : i ≤ len) : T (skB T len i) ≠ 32 := by
  have := sk_end (isB T) (len - i) i (by unfold skB at h; omega)
  unfold skB isB at *
  simpa using this
theorem skB_fix (T : Nat → Nat) {len i : Nat} (h : len ≤ i ∨ T i ≠ 32) : skB T len i = i := by
  unfold skB
  cases e : len - i with
  | zero => rfl
  | succ j =>
    unfold sk isB
    rw [if_neg]
    simp; omega
theorem skB_skB (T : Nat → Nat) {len i : Nat} (h : i ≤ len) : skB T len (skB T len i) = skB T len i := by
  apply skB_fix
  by_cases c : skB T len i < len
  · exact Or.inr (skB_n T c h)
  · left; omega
/-- a number's value -/
def dv (T : Nat → Nat) (q : Nat) : Nat → Nat
  | 0 => 0
  | m + 1 => dv T q m * 10 + (T (q + m) - 48)
theorem dv_s (T : Nat → Nat) (q m : Nat) : dv T q (m + 1) = dv T q m * 10 + (T (q + m) - 48) := rfl
theorem dv_lt (T : Nat → Nat) (q : Nat) : ∀ m, (∀ i, i < m → T (q + i) ≤ 57) → dv T q m < 10 ^ m
  | 0, _ => by show 0 < 1; omega
  | m + 1, h => by
    have h1 := dv_lt T q m (fun i hi => h i (by omega))
    have h2 := h m (by omega)
    unfold dv
    rw [Nat.pow_succ]
    omega
/-! both sides see the same sign -/
theorem c_dig : ∀ c, c ≤ 256 → f_X4_isDigit (hI c) = some (nI (if 49 ≤ c ∧ c ≤ 58 then 1 else 0)) := by decide +kernel
theorem c_let : ∀ c, c ≤ 256 → f_X4_isLetter (hI c) = some (nI (if 98 ≤ c ∧ c ≤ 123 then 1 else 0)) := by decide +kernel
theorem c_digm : ∀ c, c ≤ 256 → f_X12_in (hI c).toInt64 48 57 = some (nI (if 49 ≤ c ∧ c ≤ 58 then 1 else 0)) := by decide +kernel
theorem bI_and : ∀ t, t < 256 → bI t &&& (255 : Int32) = nI t := by decide +kernel
theorem bI_let : ∀ t, t < 256 → (bI t < (97 : Int32) ↔ ¬ 97 ≤ t ∨ 128 ≤ t) ∧ ((122 : Int32) < bI t ↔ 122 < t ∧ t < 128) := by decide +kernel
theorem bI_eq : ∀ t, t < 256 → ∀ c, c < 128 → (bI t = nI c ↔ t = c) := by decide +kernel
def chr (k j : Nat) : Nat := ((sbyt.getD k []).getD j 0).toBitVec.toNat
theorem chr_ok : ∀ k, k < 23 → ∀ j, j < slen.getD k 0 → f_J0_charAt_5068e k (nI j) = some (nI (chr k j)) := by decide +kernel
theorem chr_lt : ∀ k, k < 23 → ∀ j, j < slen.getD k 0 → chr k j < 128 := by decide +kernel
theorem len_ok : ∀ k, k < 23 → f_J0_length_8abf5 k = some (nI (slen.getD k 0)) := by decide +kernel
theorem slen_lt : ∀ k, k < 23 → slen.getD k 0 ≤ 73 ∧ 0 < slen.getD k 0 := by decide +kernel
theorem cc_le {T : Nat → Nat} {len : Nat} (hT : ∀ i, i < len → T i < 256) (i : Nat) : cc T len i ≤ 256 := by
  unfold cc
  split
  · have := hT i (by assumption); omega
  · omega
theorem cc_in {T : Nat → Nat} {len i : Nat} (h : i < len) : cc T len i = T i + 1 := if_pos h
theorem cc_out {T : Nat → Nat} {len i : Nat} (h : ¬ i < len) : cc T len i = 0 := if_neg h
/-- only one row changes -/
def FA (a : Nat) (σ σ' : MS) : Prop := Sm σ σ' ∧ ∀ b, b ≠ a → sI σ' b = sI σ b
theorem FA.refl (a : Nat) (σ : MS) : FA a σ σ := ⟨Sm.refl σ, fun _ _ => rfl⟩
theorem FA.trans {a : Nat} {σ σ' σ'' : MS} (h : FA a σ σ') (g : FA a σ' σ'') : FA a σ σ'' := ⟨h.1.trans g.1, fun b hb => (g.2 b hb).trans (h.2 b hb)⟩
theorem FA.w (a : Nat) (σ : MS) (k : Nat) (v : Int32) : FA a σ (wI σ a k v) := ⟨⟨rfl, rfl, rfl⟩, fun b hb => sI_wIn _ _ _ _ hb⟩
theorem TX.fa {a len : Nat} {T : Nat → Nat} {σ σ' : MS} (h : TX len T σ) (hf : FA a σ σ') (h1 : a ≠ 1) (h2 : a ≠ 2) : TX len T σ' := by
  unfold TX
  rw [hf.2 1 (fun e => h1 e.symm), hf.2 2 (fun e => h2 e.symm)]; exact h
section XL
variable {a len : Nat} {T : Nat → Nat}
theorem x_byte {σ : MS} (h : TX len T σ) (hl : len ≤ 400) {i : Nat} (hi : i < 2 ^ 31) : f_X9_byteAt (nI i) σ = some (hI (cc T len i)) := by
  unfold f_X9_byteAt b_X9_byteAt_0 b_X9_byteAt_21 b_X9_byteAt_22
  rw [if_neg (nI_pos hi), h.1, q_le (by omega) hi]
  by_cases c : i < len
  · rw [if_neg (by omega), chk_t (in_n (show i < 400 by omega) (by decide)), ix_n hi, h.2 i c, cc_in c, hI_s]
  · rw [if_pos (by omega), cc_out c]; rfl
theorem x_skip (h1 : a ≠ 1) (h2 : a ≠ 2) (hl : len ≤ 400) (hT : ∀ i, i < len → T i < 256) : ∀ (j i n : Nat) (σ : MS), i + j = len → j < n → TX len T σ → sI σ a 1 = nI i → ∃ σ', b_X4_advance_0 a n σ = b_X4_advance_43 a σ' ∧ FA a σ σ' ∧ (∀ f, f ≠ 1 → sI σ' a f = sI σ a f) ∧ sI σ' a 1 = nI (sk (isB T) j i)
  | 0, i, n + 1, σ, hi, _, h, e => by
    refine ⟨σ, ?_, FA.refl a σ, fun _ _ => rfl, e⟩
    conv => lhs; unfold b_X4_advance_0
    rw [h.1, e, q_le (by omega) (by omega), if_pos (by omega)]
  | j + 1, i, n + 1, σ, hi, hn, h, e => by
    have hb : b_X4_advance_0 a (n + 1) σ = if T i = 32 then b_X4_advance_0 a n (wI σ a 1 (nI (i + 1))) else b_X4_advance_43 a σ := by
      conv => lhs; unfold b_X4_advance_0
      have hti := hT i (by omega)
      rw [h.1, e, q_le (by omega) (by omega), if_neg (by omega), x_byte h hl (by omega), bnd, cc_in (by omega), hI_s, q_nl_eq (by decide) (by omega), nI_1]
    unfold sk isB
    by_cases c : T i = 32
    · obtain ⟨σ', g1, g2, g3, g4⟩ := x_skip h1 h2 hl hT j (i + 1) n (wI σ a 1 (nI (i + 1))) (by omega) (by omega) (h.fa (FA.w a σ _ _) h1 h2) (sI_wIs _ _ _ _)
      refine ⟨σ', by rw [hb, if_pos c]; exact g1, (FA.w a σ _ _).trans g2, fun f hf => by rw [g3 f hf, sI_wIk _ _ _ _ hf], ?_⟩
      rw [if_pos (by simp [c])]; exact g4
    · refine ⟨σ, by rw [hb, if_neg c], FA.refl a σ, fun _ _ => rfl, ?_⟩
      rw [if_neg (by simp [c])]; exact e
  | _, _, 0, _, _, hn, _, _ => absurd hn (Nat.not_lt_zero _)
theorem x_letters (h1 : a ≠ 1) (h2 : a ≠ 2) (hl : len ≤ 400) (hT : ∀ i, i < len → T i < 256) : ∀ (j i n : Nat) (σ : MS), i + j = len → j < n → TX len T σ → sI σ a 1 = nI i → ∃ σ', b_X4_readLetters_0 a n σ = some σ' ∧ FA a σ σ' ∧ (∀ f, f ≠ 1 → sI σ' a f = sI σ a f) ∧ sI σ' a 1 = nI (sk (isL T) j i)
  | 0, i, n + 1, σ, hi, _, h, e => by
    refine ⟨σ, ?_, FA.refl a σ, fun _ _ => rfl, e⟩
    unfold b_X4_readLetters_0 b_X4_readLetters_44
    rw [h.1, e, q_le (by omega) (by omega), if_pos (by omega)]
  | j + 1, i, n + 1, σ, hi, hn, h, e => by
    have hti := hT i (by omega)
    have hb : b_X4_readLetters_0 a (n + 1) σ = if 97 ≤ T i ∧ T i ≤ 122 then b_X4_readLetters_0 a n (wI σ a 1 (nI (i + 1))) else some σ := by
      conv => lhs; unfold b_X4_readLetters_0 b_X4_readLetters_44
      rw [h.1, e, q_le (by omega) (by omega), if_neg (by omega), x_byte h hl (by omega), bnd, cc_in (by omega), c_let _ (by omega), bnd, nI_1]
      by_cases c : 97 ≤ T i ∧ T i ≤ 122
      · rw [if_pos (show 98 ≤ T i + 1 ∧ T i + 1 ≤ 123 by omega), if_neg (by decide), if_pos c]
      · rw [if_neg (show ¬ (98 ≤ T i + 1 ∧ T i + 1 ≤ 123) by omega), if_pos (by decide), if_neg c]
    unfold sk isL
    by_cases c : 97 ≤ T i ∧ T i ≤ 122
    · obtain ⟨σ', g1, g2, g3, g4⟩ := x_letters h1 h2 hl hT j (i + 1) n (wI σ a 1 (nI (i + 1))) (by omega) (by omega) (h.fa (FA.w a σ _ _) h1 h2) (sI_wIs _ _ _ _)
      refine ⟨σ', by rw [hb, if_pos c]; exact g1, (FA.w a σ _ _).trans g2, fun f hf => by rw [g3 f hf, sI_wIk _ _ _ _ hf], ?_⟩
      rw [if_pos (by simp [c])]; exact g4
    · refine ⟨σ, by rw [hb, if_neg c], FA.refl a σ, fun _ _ => rfl, ?_⟩
      rw [if_neg (by simpa using c)]; exact e
  | _, _, 0, _, _, hn, _, _ => absurd hn (Nat.not_lt_zero _)
/-- a number as the class has it, read up to e -/
def nmX (T : Nat → Nat) (q e : Nat) : Int32 := if e - q ≤ 5 then nI (dv T q (e - q)) else -1
theorem x_digits (h1 : a ≠ 1) (h2 : a ≠ 2) (hl : len ≤ 400) (hT : ∀ i, i < len → T i < 256) {q : Nat} : ∀ (j i n : Nat) (σ : MS), i + j = len → q ≤ i → j < n → TX len T σ → sI σ a 1 = nI i → sI σ a 3 = nI q → sI σ a 4 = nmX T q i → ∃ σ', b_X4_readDigits_5 a n σ = some σ' ∧ FA a σ σ' ∧ (∀ f, f ≠ 1 → f ≠ 4 → sI σ' a f = sI σ a f) ∧ sI σ' a 1 = nI (sk (isD T) j i) ∧ sI σ' a 4 = nmX T q (sk (isD T) j i)
  | 0, i, n + 1, σ, hi, _, _, h, e, _, e4 => by
    refine ⟨σ, ?_, FA.refl a σ, fun _ _ _ => rfl, e, e4⟩
    unfold b_X4_readDigits_5 b_X4_readDigits_96
    rw [h.1, e, q_le (by omega) (by omega), if_pos (by omega)]
  | j + 1, i, n + 1, σ, hi, hq, hn, h, e, e3, e4 => by
    have hti := hT i (by omega)
    have hsub : nI i - nI q = nI (i - q) := pk_sub hq
    have hb : b_X4_readDigits_5 a (n + 1) σ = if 48 ≤ T i ∧ T i ≤ 57 then b_X4_readDigits_5 a n (wI (wI σ a 4 (nmX T q (i + 1))) a 1 (nI (i + 1))) else some σ := by
      conv => lhs; unfold b_X4_readDigits_5 b_X4_readDigits_96 b_X4_readDigits_83
      rw [h.1, e, q_le (by omega) (by omega), if_neg (by omega), x_byte h hl (by omega), bnd, cc_in (by omega), c_dig _ (by omega), bnd, e3, hsub, q_ln_le (by decide) (by omega), bnd, hI_s]
      by_cases c : 48 ≤ T i ∧ T i ≤ 57
      · rw [if_pos (show 49 ≤ T i + 1 ∧ T i + 1 ≤ 58 by omega), if_neg (by decide), if_pos c]
        by_cases c5 : 5 ≤ i - q
        · have en : nmX T q (i + 1) = -1 := if_neg (by omega)
          rw [if_pos c5, en, sI_wIk _ _ _ _ (show (1 : Nat) ≠ 4 by decide), e, nI_1]
        · have en : nmX T q (i + 1) = nI (dv T q (i - q) * 10 + (T i - 48)) := by
            unfold nmX
            rw [if_pos (by omega), show i + 1 - q = (i - q) + 1 by omega, dv_s, show q + (i - q) = i by omega]
          rw [if_neg c5, e4, show nmX T q i = nI (dv T q (i - q)) from if_pos (by omega), nl_mul, nI_add, nl_sub (by omega), show dv T q (i - q) * 10 + T i - 48 = dv T q (i - q) * 10 + (T i - 48) by omega, ← en, sI_wIk _ _ _ _ (show (1 : Nat) ≠ 4 by decide), e, nI_1]
      · rw [if_neg (show ¬ (49 ≤ T i + 1 ∧ T i + 1 ≤ 58) by omega), if_pos (by decide), if_neg c]
    unfold sk isD
    by_cases c : 48 ≤ T i ∧ T i ≤ 57
    · obtain ⟨σ', g1, g2, g3, g4, g5⟩ := x_digits h1 h2 hl hT (q := q) j (i + 1) n (wI (wI σ a 4 (nmX T q (i + 1))) a 1 (nI (i + 1))) (by omega) (by omega) (by omega) (h.fa ((FA.w a σ _ _).trans (FA.w a _ _ _)) h1 h2) (sI_wIs _ _ _ _) (by rw [sI_wIk _ _ _ _ (by decide), sI_wIk _ _ _ _ (by decide)]; exact e3) (by rw [sI_wIk _ _ _ _ (by decide), sI_wIs])
      refine ⟨σ', by rw [hb, if_pos c]; exact g1, ((FA.w a σ _ _).trans (FA.w a _ _ _)).trans g2, fun f q1 q2 => by rw [g3 f q1 q2, sI_wIk _ _ _ _ q1, sI_wIk _ _ _ _ q2], ?_, ?_⟩
      · rw [if_pos (by simp [c])]; exact g4
      · rw [if_pos (by simp [c])]; exact g5
    · refine ⟨σ, by rw [hb, if_neg c], FA.refl a σ, fun _ _ _ => rfl, ?_, ?_⟩
      · rw [if_neg (by simpa using c)]; exact e
      · rw [if_neg (by simpa using c)]; exact e4
  | _, _, 0, _, _, _, hn, _, _, _, _ => absurd hn (Nat.not_lt_zero _)
/-- what the class has read at q -/
def TokX (a : Nat) (T : Nat → Nat) (len q : Nat) (σ : MS) : Prop :=
  (q = len ∧ sI σ a 2 = 0 ∧ sI σ a 1 = nI q) ∨
  (q < len ∧ (48 ≤ T q ∧ T q ≤ 57) ∧ sI σ a 2 = 1 ∧ sI σ a 1 = nI (skD T len q) ∧ sI σ a 4 = nmX T q (skD T len q)) ∨
  (q < len ∧ (97 ≤ T q ∧ T q ≤ 122) ∧ sI σ a 2 = 2 ∧ sI σ a 1 = nI (skL T len q)) ∨
  (q < len ∧ ¬ (48 ≤ T q ∧ T q ≤ 57) ∧ ¬ (97 ≤ T q ∧ T q ≤ 122) ∧ sI σ a 2 = 3 ∧
    (((T q = 60 ∨ T q = 62) ∧ q + 1 < len ∧ T (q + 1) = 61 ∧ sI σ a 5 = nI (T q + 256) ∧ sI σ a 1 = nI (q + 2)) ∨
     (¬ ((T q = 60 ∨ T q = 62) ∧ q + 1 < len ∧ T (q + 1) = 61) ∧ sI σ a 5 = nI (T q) ∧ sI σ a 1 = nI (q + 1))))
theorem x_sign (h1 : a ≠ 1) (h2 : a ≠ 2) (hl : len ≤ 400) (hT : ∀ i, i < len → T i < 256) {q : Nat} {σ : MS} (h : TX len T σ) (hq : q < len) (e : sI σ a 1 = nI q) : ∃ σ', f_X4_readSign a (nI (T q)) σ = some σ' ∧ FA a σ σ' ∧ (∀ f, f ≠ 1 → f ≠ 5 → sI σ' a f = sI σ a f) ∧ (((T q = 60 ∨ T q = 62) ∧ q + 1 < len ∧ T (q + 1) = 61 ∧ sI σ' a 5 = nI (T q + 256) ∧ sI σ' a 1 = nI (q + 2)) ∨ (¬ ((T q = 60 ∨ T q = 62) ∧ q + 1 < len ∧ T (q + 1) = 61) ∧ sI σ' a 5 = nI (T q) ∧ sI σ' a 1 = nI (q + 1))) := by
  have htq := hT q hq
  have e1 : sI (wI σ a 5 (nI (T q))) a 1 = nI q := by rw [sI_wIk _ _ _ _ (by decide)]; exact e
  have hb : f_X4_readSign a (nI (T q)) σ = if T q = 60 ∨ T q = 62 then b_X4_readSign_27 a (wI (wI σ a 5 (nI (T q))) a 1 (nI (q + 1))) else some (wI (wI σ a 5 (nI (T q))) a 1 (nI (q + 1))) := by
    unfold f_X4_readSign b_X4_readSign_0 b_X4_readSign_65
    rw [e1, nI_1, q_nl_eq (by decide) (by omega), q_nl_eq (by decide) (by omega)]
    by_cases c1 : T q = 60
    · rw [if_pos c1, if_pos (Or.inl c1)]
    · by_cases c2 : T q = 62
      · rw [if_neg c1, if_pos c2, if_pos (Or.inr c2)]
      · rw [if_neg c1, if_neg c2, if_neg (by omega)]
  have fa0 : FA a σ (wI (wI σ a 5 (nI (T q))) a 1 (nI (q + 1))) := (FA.w a σ _ _).trans (FA.w a _ _ _)
  have k0 : ∀ f, f ≠ 1 → f ≠ 5 → sI (wI (wI σ a 5 (nI (T q))) a 1 (nI (q + 1))) a f = sI σ a f := fun f q1 q5 => by rw [sI_wIk _ _ _ _ q1, sI_wIk _ _ _ _ q5]
  have z5 : sI (wI (wI σ a 5 (nI (T q))) a 1 (nI (q + 1))) a 5 = nI (T q) := by rw [sI_wIk _ _ _ _ (by decide), sI_wIs]
  have z1 : sI (wI (wI σ a 5 (nI (T q))) a 1 (nI (q + 1))) a 1 = nI (q + 1) := sI_wIs _ _ _ _
  rw [hb]
  by_cases c : T q = 60 ∨ T q = 62
  · rw [if_pos c]
    unfold b_X4_readSign_27 b_X4_readSign_65
    rw [z1, x_byte (h.fa fa0 h1 h2) hl (by omega), bnd, z5]
    by_cases c2 : q + 1 < len ∧ T (q + 1) = 61
    · rw [cc_in c2.1, hI_s, c2.2, if_pos (by decide), nl_add, sI_wIk _ _ _ _ (show (1 : Nat) ≠ 5 by decide), z1, nI_1]
      refine ⟨_, rfl, fa0.trans ((FA.w a _ _ _).trans (FA.w a _ _ _)), fun f q1 q5 => by rw [sI_wIk _ _ _ _ q1, sI_wIk _ _ _ _ q5, k0 f q1 q5], Or.inl ⟨c, c2.1, rfl, by rw [sI_wIk _ _ _ _ (by decide), sI_wIs], sI_wIs _ _ _ _⟩⟩
    · have hne : ¬ hI (cc T len (q + 1)) = (61 : Int32) := by
        by_cases c3 : q + 1 < len
        · have := hT _ c3
          rw [cc_in c3, hI_s, nl_eq (by decide) (by omega)]
          exact fun q => c2 ⟨c3, q⟩
        · rw [cc_out c3]; decide
      rw [if_neg hne]
      exact ⟨_, rfl, fa0, k0, Or.inr ⟨fun q => c2 q.2, z5, z1⟩⟩
  · rw [if_neg c]
    exact ⟨_, rfl, fa0, k0, Or.inr ⟨fun q => c q.1, z5, z1⟩⟩
theorem x_adv (h1 : a ≠ 1) (h2 : a ≠ 2) (hl : len ≤ 400) (hT : ∀ i, i < len → T i < 256) {p : Nat} {σ : MS} (h : TX len T σ) (hp : p ≤ len) (e : sI σ a 1 = nI p) : ∃ σ', f_X4_advance a σ = some σ' ∧ FA a σ σ' ∧ sI σ' a 6 = sI σ a 6 ∧ sI σ' a 3 = nI (skB T len p) ∧ TokX a T len (skB T len p) σ' := by
  have hF := FU_big
  obtain ⟨hq1, hq2⟩ := skB_le T hp
  obtain ⟨σ1, a1, a2, a3, a4⟩ := x_skip h1 h2 hl hT (len - p) p FU σ (by omega) (by omega) h e
  have a4 : sI σ1 a 1 = nI (skB T len p) := a4
  generalize hq : skB T len p = q at a4 hq1 hq2 ⊢
  have t1 := h.fa a2 h1 h2
  have fa3 : FA a σ1 (wI σ1 a 3 (nI q)) := FA.w a σ1 _ _
  have e3 : sI (wI σ1 a 3 (nI q)) a 1 = nI q := by rw [sI_wIk _ _ _ _ (by decide)]; exact a4
  have z6 : ∀ v, sI (wI (wI σ1 a 3 (nI q)) a 2 v) a 6 = sI σ a 6 := fun v => by rw [sI_wIk _ _ _ _ (by decide), sI_wIk _ _ _ _ (by decide), a3 6 (by decide)]
  have z3 : ∀ v, sI (wI (wI σ1 a 3 (nI q)) a 2 v) a 3 = nI q := fun v => by rw [sI_wIk _ _ _ _ (by decide), sI_wIs]
  have z1 : ∀ v, sI (wI (wI σ1 a 3 (nI q)) a 2 v) a 1 = nI q := fun v => by rw [sI_wIk _ _ _ _ (by decide)]; exact e3
  have z2 : ∀ v, sI (wI (wI σ1 a 3 (nI q)) a 2 v) a 2 = v := fun v => sI_wIs _ _ _ _
  have fz : ∀ v, FA a σ (wI (wI σ1 a 3 (nI q)) a 2 v) := fun v => a2.trans (fa3.trans (FA.w a _ _ _))
  have tz : ∀ v, TX len T (wI (wI σ1 a 3 (nI q)) a 2 v) := fun v => h.fa (fz v) h1 h2
  have e43 : f_X4_advance a σ = b_X4_advance_43 a σ1 := a1
  rw [e43]
  unfold b_X4_advance_43 b_X4_advance_124
  rw [a4, e3, x_byte (t1.fa fa3 h1 h2) hl (by omega), bnd]
  by_cases c : q < len
  · have htq := hT q c
    rw [cc_in c, if_neg (by rw [hI_none (by omega)]; omega), c_dig _ (by omega), bnd, c_let _ (by omega), bnd]
    by_cases c1 : 48 ≤ T q ∧ T q ≤ 57
    · rw [if_pos (show 49 ≤ T q + 1 ∧ T q + 1 ≤ 58 by omega), if_neg (by decide)]
      obtain ⟨σ2, b1, b2, b3, b4, b5⟩ := x_digits h1 h2 hl hT (q := q) (len - q) q FU (wI (wI (wI σ1 a 3 (nI q)) a 2 1) a 4 0) (by omega) (Nat.le_refl _) (by omega) ((tz 1).fa (FA.w a _ _ _) h1 h2) (by rw [sI_wIk _ _ _ _ (by decide)]; exact z1 1) (by rw [sI_wIk _ _ _ _ (by decide)]; exact z3 1) (by
        rw [sI_wIs]; unfold nmX
        rw [Nat.sub_self, if_pos (by omega)]; rfl)
      have b0 : f_X4_readDigits a (wI (wI σ1 a 3 (nI q)) a 2 1) = some σ2 := b1
      rw [b0]
      refine ⟨σ2, rfl, (fz 1).trans ((FA.w a _ _ _).trans b2), ?_, ?_, Or.inr (Or.inl ⟨c, c1, ?_, b4, b5⟩)⟩
      · rw [b3 6 (by decide) (by decide), sI_wIk _ _ _ _ (by decide), z6 1]
      · rw [b3 3 (by decide) (by decide), sI_wIk _ _ _ _ (by decide), z3 1]
      · rw [b3 2 (by decide) (by decide), sI_wIk _ _ _ _ (by decide), z2 1]
    · rw [if_neg (show ¬ (49 ≤ T q + 1 ∧ T q + 1 ≤ 58) by omega), if_pos (by decide)]
      by_cases c2 : 97 ≤ T q ∧ T q ≤ 122
      · rw [if_pos (show 98 ≤ T q + 1 ∧ T q + 1 ≤ 123 by omega), if_neg (by decide)]
        obtain ⟨σ2, b1, b2, b3, b4⟩ := x_letters h1 h2 hl hT (len - q) q FU (wI (wI σ1 a 3 (nI q)) a 2 2) (by omega) (by omega) (tz 2) (z1 2)
        have b0 : f_X4_readLetters a (wI (wI σ1 a 3 (nI q)) a 2 2) = some σ2 := b1
        rw [b0]
        exact ⟨σ2, rfl, (fz 2).trans b2, by rw [b3 6 (by decide), z6 2], by rw [b3 3 (by decide), z3 2], Or.inr (Or.inr (Or.inl ⟨c, c2, by rw [b3 2 (by decide), z2 2], b4⟩))⟩
      · rw [if_neg (show ¬ (98 ≤ T q + 1 ∧ T q + 1 ≤ 123) by omega), if_pos (by decide), hI_s]
        obtain ⟨σ2, b1, b2, b3, b4⟩ := x_sign h1 h2 hl hT (tz 3) c (z1 3)
        rw [b1]
        exact ⟨σ2, rfl, (fz 3).trans b2, by rw [b3 6 (by decide) (by decide), z6 3], by rw [b3 3 (by decide) (by decide), z3 3], Or.inr (Or.inr (Or.inr ⟨c, c1, c2, by rw [b3 2 (by decide) (by decide), z2 3], b4⟩))⟩
  · rw [cc_out c, if_pos hI_0]
    exact ⟨_, rfl, fz 0, z6 0, z3 0, Or.inl ⟨by omega, z2 0, z1 0⟩⟩
end XL
end
