/-! ===== pure: numbers are read, on both sides ===== -/
section
theorem x_fail {a q c : Nat} {x : Int32} {σ : MS} (hx : x = nI c) (h6 : sI σ a 6 = 0) (h3 : sI σ a 3 = nI q) : f_X4_fail a x σ = some (wI σ a 6 (nI (1 + 8 * q + c))) := by
  unfold f_X4_fail b_X4_fail_0 b_X4_fail_22
  rw [if_pos h6, h3, ln_mul, ln_add, hx, nI_add]
theorem x_fail_f {a f : Nat} {x : Int32} {σ : MS} (h6 : sI σ a 6 = nI f) (hf : f ≠ 0) (hf2 : f < 2 ^ 31) : f_X4_fail a x σ = some σ := by
  unfold f_X4_fail b_X4_fail_0 b_X4_fail_22
  rw [h6, q_zero hf2, if_neg hf]
theorem m_fails {q c : Nat} {x y : Int32} {σ : MS} (hx : x = nI c) (hy : y = nI q) (h : sI σ 0 31 = 0) : f_X12_fails x y σ = some (wI σ 0 31 (nI (1 + 8 * q + c))) := by
  unfold f_X12_fails b_X12_fails_0 b_X12_fails_23
  rw [if_pos h, hy, ln_mul, ln_add, hx, nI_add]
theorem m_fails_f {f : Nat} {x y : Int32} {σ : MS} (h : sI σ 0 31 = nI f) (hf : f ≠ 0) (hf2 : f < 2 ^ 31) : f_X12_fails x y σ = some (wI σ 0 31 (nI f)) := by
  unfold f_X12_fails b_X12_fails_0 b_X12_fails_23
  rw [h, q_zero hf2, if_neg hf]
/-- both stand at p, without fault -/
def LSy (a : Nat) (T : Nat → Nat) (len p : Nat) (σx σm : MS) : Prop := TX len T σx ∧ TM len T σm ∧ p ≤ len ∧ sI σx a 1 = nI p ∧ sI σm 0 30 = nI p ∧ sI σx a 6 = 0 ∧ sI σm 0 31 = 0
def FltM (T : Nat → Nat) (len f : Nat) (σm : MS) : Prop := TM len T σm ∧ (∃ p, p ≤ 1000 ∧ sI σm 0 30 = nI p) ∧ sI σm 0 31 = nI f
theorem LSy.x {a len p : Nat} {T : Nat → Nat} {σx σx' σm : MS} (h : LSy a T len p σx σm) (h1 : sI σx' 1 = sI σx 1) (h2 : sI σx' 2 = sI σx 2) (ha : sI σx' a = sI σx a) : LSy a T len p σx' σm := by
  unfold LSy TX
  rw [h1, h2, ha]; exact h
theorem LSy.m {a len p : Nat} {T : Nat → Nat} {σx σm σm' : MS} (h : LSy a T len p σx σm) (h0 : sI σm' 0 = sI σm 0) (h28 : sI σm' 28 = sI σm 28) : LSy a T len p σx σm' := by
  unfold LSy TM
  rw [h0, h28]; exact h
theorem FltM.m {len f : Nat} {T : Nat → Nat} {σm σm' : MS} (h : FltM T len f σm) (h0 : sI σm' 0 = sI σm 0) (h28 : sI σm' 28 = sI σm 28) : FltM T len f σm' := by
  unfold FltM TM
  rw [h0, h28]; exact h
section NN
variable {len : Nat} {T : Nat → Nat}
theorem skB_far {T : Nat → Nat} {len p : Nat} (hp : p ≤ 1000) (hl : len ≤ 400) : skB T len p ≤ 1000 := by
  by_cases c : p ≤ len
  · have := (skB_le T c).2; omega
  · rw [skB_fix T (Or.inl (by omega))]; exact hp
theorem FltM.blanks (hl : len ≤ 400) (hT : ∀ i, i < len → T i < 256) {f : Nat} {σ : MS} (h : FltM T len f σ) : ∃ σ', f_X12_blanks σ = some σ' ∧ FR σ σ' ∧ FltM T len f σ' := by
  obtain ⟨h1, ⟨p, h2, h3⟩, h4⟩ := h
  obtain ⟨σ', a1, a2, a3, a4⟩ := m_blanks hl hT (by omega) h1 h3
  exact ⟨σ', a1, a2, h1.fr a2, ⟨_, skB_far h2 hl, a4⟩, by rw [a3]; exact h4⟩
theorem m_amountF (hl : len ≤ 400) (hT : ∀ i, i < len → T i < 256) {f : Nat} {σ : MS} (hf : f ≠ 0) (hf2 : f ≤ 4000) (h : FltM T len f σ) (lo hi : Int32) : ∃ σ', f_X12_amount lo hi σ = some (0, σ') ∧ FR σ σ' ∧ FltM T len f σ' := by
  obtain ⟨σ', a1, a2, a3⟩ := h.blanks hl hT
  refine ⟨σ', ?_, a2, a3⟩
  unfold f_X12_amount b_X12_amount_0 b_X12_amount_26 b_X12_amount_54
  rw [a1, bnd, a3.2.2, q_zero (by omega), if_neg hf, q_zero (by omega), if_neg hf]
theorem m_digits_loop (hl : len ≤ 400) (hT : ∀ i, i < len → T i < 256) {b : Nat} : ∀ (j i n : Nat) (σ : MS), i + j = len → b ≤ i → j < n → TM len T σ → sI σ 0 30 = nI i → sI σ 0 31 = 0 → (∀ m, b ≤ m → m < i → 48 ≤ T m ∧ T m ≤ 57) →
    ∃ σ' v, b_X12_digits_25 n (99999 : Int32) (nI b) (nI (dv T b (min 5 (i - b)))) σ = some (v, σ') ∧ FR σ σ' ∧ sI σ' 0 30 = nI (sk (isD T) j i) ∧ (sk (isD T) j i - b ≤ 5 → v = nI (dv T b (sk (isD T) j i - b)) ∧ sI σ' 0 31 = 0) ∧ (5 < sk (isD T) j i - b → sI σ' 0 31 = nI (1 + 8 * b + 1)) := by
  have stop : ∀ (i : Nat) (σ : MS), b ≤ i → i ≤ len → TM len T σ → sI σ 0 30 = nI i → sI σ 0 31 = 0 → (∀ m, b ≤ m → m < i → 48 ≤ T m ∧ T m ≤ 57) → ∃ σ' v, (if (5 : Int32) < nI i - nI b then b_X12_digits_87 (nI b) (nI (dv T b (min 5 (i - b)))) σ else (if nI (dv T b (min 5 (i - b))) ≤ (99999 : Int32) then b_X12_digits_93 (nI (dv T b (min 5 (i - b)))) σ else b_X12_digits_87 (nI b) (nI (dv T b (min 5 (i - b)))) σ)) = some (v, σ') ∧ FR σ σ' ∧ sI σ' 0 30 = nI i ∧ (i - b ≤ 5 → v = nI (dv T b (i - b)) ∧ sI σ' 0 31 = 0) ∧ (5 < i - b → sI σ' 0 31 = nI (1 + 8 * b + 1)) := by
    intro i σ hb hi h e e31 hd
    have hdv := dv_lt T b (min 5 (i - b)) (fun m hm => (hd (b + m) (by omega) (by omega)).2)
    have h10 : 10 ^ min 5 (i - b) ≤ 10 ^ 5 := Nat.pow_le_pow_right (by decide) (by omega)
    rw [pk_sub hb, q_ln_lt (by decide) (by omega)]
    by_cases c : 5 < i - b
    · rw [if_pos c]
      unfold b_X12_digits_87 b_X12_digits_93
      rw [m_fails (x := (1 : Int32)) (c := 1) (q := b) rfl rfl e31]
      exact ⟨_, _, rfl, FR.w31 σ _, by rw [sI_wIk _ _ _ _ (by decide)]; exact e, fun q => by omega, fun _ => sI_wIs _ _ _ _⟩
    · rw [if_neg c, q_nl_le (by decide) (by omega), if_pos (by omega)]
      exact ⟨σ, _, rfl, FR.refl σ, e, fun _ => ⟨by rw [Nat.min_eq_right (by omega)], e31⟩, fun q => absurd q c⟩
  intro j
  induction j with
  | zero =>
    intro i n σ hi hb hn h e e31 hd
    obtain ⟨n, rfl⟩ : ∃ n', n = n' + 1 := ⟨n - 1, by omega⟩
    obtain ⟨σ', v, s1, s2⟩ := stop i σ hb (by omega) h e e31 hd
    refine ⟨σ', v, ?_, s2⟩
    conv => lhs; unfold b_X12_digits_25
    rw [m_dig h hl hT (by omega) e, bnd, if_neg (show ¬ (i < len ∧ 48 ≤ T i ∧ T i ≤ 57) by omega), if_pos (show nI 0 = 0 from rfl), e]
    exact s1
  | succ j ih =>
    intro i n σ hi hb hn h e e31 hd
    obtain ⟨n, rfl⟩ : ∃ n', n = n' + 1 := ⟨n - 1, by omega⟩
    have hti := hT i (by omega)
    unfold sk isD
    by_cases c : 48 ≤ T i ∧ T i ≤ 57
    · rw [if_pos (by simp [c])]
      obtain ⟨σ', v, g1, g2, g3, g4⟩ := ih (i + 1) n (wI σ 0 30 (nI (i + 1))) (by omega) (by omega) (by omega) (h.fr (FR.w30 σ _)) (sI_wIs _ _ _ _) (by rw [sI_wIk _ _ _ _ (by decide)]; exact e31) (fun m h1 h2 => by
        by_cases em : m = i
        · subst em; exact c
        · exact hd m h1 (by omega))
      refine ⟨σ', v, ?_, (FR.w30 σ _).trans g2, g3, g4⟩
      rw [← g1]
      conv => lhs; unfold b_X12_digits_25 b_X12_digits_58
      rw [m_dig h hl hT (by omega) e, bnd, if_pos (show i < len ∧ 48 ≤ T i ∧ T i ≤ 57 from ⟨by omega, c⟩), if_neg (show ¬ nI 1 = 0 by decide), m_sign h hl hT (by omega) e, bnd, e, pk_sub hb, q_ln_le (by decide) (by omega), nI_1]
      by_cases c5 : 5 ≤ i - b
      · rw [if_pos c5, Nat.min_eq_left c5, Nat.min_eq_left (show 5 ≤ i + 1 - b by omega)]
      · rw [if_neg c5, cc_in (by omega), hI_s, ln_mul, nI_add, nl_sub (by omega), Nat.min_eq_right (by omega), Nat.min_eq_right (show i + 1 - b ≤ 5 by omega), show i + 1 - b = (i - b) + 1 by omega, dv_s, show b + (i - b) = i by omega, show 10 * dv T b (i - b) + T i - 48 = dv T b (i - b) * 10 + (T i - 48) by omega]
    · rw [if_neg (by simpa using c)]
      obtain ⟨σ', v, s1, s2⟩ := stop i σ hb (by omega) h e e31 hd
      refine ⟨σ', v, ?_, s2⟩
      conv => lhs; unfold b_X12_digits_25
      rw [m_dig h hl hT (by omega) e, bnd, if_neg (show ¬ (i < len ∧ 48 ≤ T i ∧ T i ≤ 57) from fun q => c q.2), if_pos (show nI 0 = 0 from rfl), e]
      exact s1
theorem m_digits (hl : len ≤ 400) (hT : ∀ i, i < len → T i < 256) {p : Nat} {σ : MS} (hp : p < len) (hd : 48 ≤ T p ∧ T p ≤ 57) (h : TM len T σ) (e : sI σ 0 30 = nI p) (e31 : sI σ 0 31 = 0) : ∃ σ' v, f_X12_digits (99999 : Int32) σ = some (v, σ') ∧ FR σ σ' ∧ sI σ' 0 30 = nI (skD T len p) ∧ (skD T len p - p ≤ 5 → v = nI (dv T p (skD T len p - p)) ∧ sI σ' 0 31 = 0) ∧ (5 < skD T len p - p → sI σ' 0 31 = nI (1 + 8 * p + 1)) := by
  have hF := FU_big
  obtain ⟨σ', v, g1, g2⟩ := m_digits_loop hl hT (b := p) (len - p) p FU σ (by omega) (Nat.le_refl _) (by omega) h e e31 (fun m h1 h2 => by omega)
  refine ⟨σ', v, ?_, g2⟩
  rw [Nat.sub_self] at g1
  unfold f_X12_digits b_X12_digits_0
  rw [m_dig h hl hT (by omega) e, bnd, if_pos (show p < len ∧ 48 ≤ T p ∧ T p ≤ 57 from ⟨hp, hd⟩), if_neg (show ¬ nI 1 = 0 by decide), e]
  exact g1
theorem m_digits_no (hl : len ≤ 400) (hT : ∀ i, i < len → T i < 256) {p : Nat} {σ : MS} (hd : ¬ (p < len ∧ 48 ≤ T p ∧ T p ≤ 57)) (hp : p < 2 ^ 31) (h : TM len T σ) (e : sI σ 0 30 = nI p) (e31 : sI σ 0 31 = 0) (x : Int32) : f_X12_digits x σ = some (0, wI σ 0 31 (nI (1 + 8 * p + 0))) := by
  unfold f_X12_digits b_X12_digits_0
  rw [m_dig h hl hT hp e, bnd, if_neg hd, if_pos (show nI 0 = 0 from rfl), m_fails (x := (0 : Int32)) (c := 0) (q := p) rfl e e31]; rfl
theorem nh_lt {v h : Nat} (hv : v < 2 ^ 31) (hh : h < 2 ^ 31) : (nI v ≤ hI h) ↔ v < h := nh_le hv hh
theorem hn_lt {v h : Nat} (hv : v < 2 ^ 31) (hh : h < 2 ^ 31) : (hI h < nI v) ↔ h ≤ v := by
  rw [← Int32.not_le, nh_le hv hh]; omega
/-- a number within bounds is read on both sides, or both find the same fault -/
theorem num2 (hl : len ≤ 400) (hT : ∀ i, i < len → T i < 256) {l0 h p : Nat} (hl0 : l0 ≤ 1) (hh : h ≤ 10000) {σx σm : MS} (L : LSy 16 T len p σx σm) :
    (∃ v p' σx' σm', l0 ≤ v ∧ v < h ∧ f_X2_readNumber (nI l0) (hI h) σx = some (nI v, σx') ∧ f_X12_amount (nI l0) (hI h) σm = some (nI v, σm') ∧ FA 16 σx σx' ∧ FR σm σm' ∧ LSy 16 T len p' σx' σm' ∧ sI σx' 16 3 = nI (skB T len p)) ∨
    (∃ r1 r2 f σx' σm', f ≠ 0 ∧ f ≤ 4000 ∧ f_X2_readNumber (nI l0) (hI h) σx = some (r1, σx') ∧ f_X12_amount (nI l0) (hI h) σm = some (r2, σm') ∧ FA 16 σx σx' ∧ FR σm σm' ∧ sI σx' 16 6 = nI f ∧ FltM T len f σm') := by
  obtain ⟨tx, tm, hp, e1, e30, e6, e31⟩ := L
  obtain ⟨σ1, a1, a2, a3, a4, a5⟩ := x_adv (a := 16) (by decide) (by decide) hl hT tx hp e1
  obtain ⟨σ2, b1, b2, b3, b4⟩ := m_blanks hl hT (by omega) tm e30
  obtain ⟨hq1, hq2⟩ := skB_le T hp
  have z6 : sI σ1 16 6 = 0 := by rw [a3]; exact e6
  have z31 : sI σ2 0 31 = 0 := by rw [b3]; exact e31
  have tm2 := tm.fr b2
  have tx1 := tx.fa a2 (by decide) (by decide)
  generalize hq : skB T len p = q at a4 a5 b4 hq1 hq2 ⊢
  have ex : f_X2_readNumber (nI l0) (hI h) σx = (if (sI σ1 16 2) = (1 : Int32) then (if (sI σ1 16 4) < nI l0 then (b_X2_readNumber_62 σ1) else (if (sI σ1 16 4) ≤ hI h then (b_X2_readNumber_70 σ1) else (b_X2_readNumber_62 σ1))) else (f_X4_fail 16 (0 : Int32) σ1).bind (fun r14 => some ((-1 : Int32), r14))) := by
    unfold f_X2_readNumber b_X2_readNumber_0
    rw [if_pos e6, a1, bnd]
  have em : f_X12_amount (nI l0) (hI h) σm = (f_X12_digits (99999 : Int32) σ2).bind (fun r14 => (b_X12_amount_26 (nI l0) (hI h) (nI q) (r14.1) r14.2)) := by
    unfold f_X12_amount b_X12_amount_0
    rw [b1, bnd, if_pos z31, b4]
  -- a fault at q
  have flt : ∀ (c p2 : Nat) (σ3 : MS) (r1 r2 : Int32) (E1 E2 : Option (Int32 × MS)), c ≤ 4 → p2 ≤ 1000 → FR σm σ3 → sI σ3 0 30 = nI p2 → E1 = some (r1, wI σ1 16 6 (nI (1 + 8 * q + c))) → E2 = some (r2, σ3) → sI σ3 0 31 = nI (1 + 8 * q + c) → ∃ r1 r2 f σx' σm', f ≠ 0 ∧ f ≤ 4000 ∧ E1 = some (r1, σx') ∧ E2 = some (r2, σm') ∧ FA 16 σx σx' ∧ FR σm σm' ∧ sI σx' 16 6 = nI f ∧ FltM T len f σm' := fun c p2 σ3 r1 r2 E1 E2 hc hp2 hf h30 h1 h2 h31 => ⟨r1, r2, 1 + 8 * q + c, _, σ3, by omega, by omega, h1, h2, a2.trans (FA.w 16 _ _ _), hf, sI_wIs _ _ _ _, tm.fr hf, ⟨p2, hp2, h30⟩, h31⟩
  rcases a5 with ⟨t1, t2, t3⟩ | ⟨t1, t2, t3, t4, t5⟩ | ⟨t1, t2, t3, t4⟩ | ⟨t1, t2, t3, t4, t5⟩
  rotate_left
  · -- a number
    obtain ⟨hs1, hs2⟩ := skD_le T (show q ≤ len by omega)
    obtain ⟨σ3, v, c1, c2, c3, c4, c5⟩ := m_digits hl hT t1 t2 tm2 b4 z31
    have e62 : b_X2_readNumber_62 σ1 = some (sI (wI σ1 16 6 (nI (1 + 8 * q + 1))) 16 4, wI σ1 16 6 (nI (1 + 8 * q + 1))) := by
      unfold b_X2_readNumber_62 b_X2_readNumber_70
      rw [x_fail (x := (1 : Int32)) (c := 1) (q := q) rfl z6 a4]; rfl
    by_cases c : skD T len q - q ≤ 5
    · obtain ⟨d1, d2⟩ := c4 c
      have hdv := dv_lt T q (skD T len q - q) (fun m hm => by
        have := sk_in (isD T) (len - q) q (q + m) (by omega) (by unfold skD at hm; omega)
        unfold isD at this
        have : 48 ≤ T (q + m) ∧ T (q + m) ≤ 57 := by simpa using this
        omega)
      have h10 : 10 ^ (skD T len q - q) ≤ 10 ^ 5 := Nat.pow_le_pow_right (by decide) c
      generalize hw : dv T q (skD T len q - q) = w at d1 hdv
      have t5' : sI σ1 16 4 = nI w := by rw [t5]; unfold nmX; rw [if_pos c, hw]
      have em2 : f_X12_amount (nI l0) (hI h) σm = if w < l0 ∨ h ≤ w then some (nI w, wI σ3 0 31 (nI (1 + 8 * q + 1))) else some (nI w, σ3) := by
        rw [em, c1, bnd, d1]
        show b_X12_amount_26 (nI l0) (hI h) (nI q) (nI w) σ3 = _
        unfold b_X12_amount_26 b_X12_amount_54
        rw [if_pos d2, m_in_gen, bnd, m_fails (x := (1 : Int32)) (c := 1) (q := q) rfl rfl d2]
        by_cases cr : w < l0 ∨ h ≤ w
        · have : nI w < nI l0 ∨ hI h < nI w := by
            rcases cr with q | q
            · left; rw [nI_ltI (by omega) (by omega)]; exact q
            · right; rw [hn_lt (by omega) (by omega)]; exact q
          rw [if_pos this, if_pos rfl, if_pos cr]; rfl
        · have : ¬ (nI w < nI l0 ∨ hI h < nI w) := by
            rintro (q | q)
            · rw [nI_ltI (by omega) (by omega)] at q; omega
            · rw [hn_lt (by omega) (by omega)] at q; omega
          rw [if_neg this, if_neg one_ne, if_neg cr]
      rw [ex, em2, if_pos t3, t5']
      by_cases cr : w < l0 ∨ h ≤ w
      · right
        rw [if_pos cr]
        have ex2 : (if nI w < nI l0 then b_X2_readNumber_62 σ1 else if nI w ≤ hI h then b_X2_readNumber_70 σ1 else b_X2_readNumber_62 σ1) = b_X2_readNumber_62 σ1 := by
          by_cases c1 : w < l0
          · rw [if_pos (by rw [nI_ltI (by omega) (by omega)]; exact c1)]
          · rw [if_neg (by rw [nI_ltI (by omega) (by omega)]; exact c1), if_neg (by rw [nh_lt (by omega) (by omega)]; omega)]
        rw [ex2, e62]
        exact flt 1 (skD T len q) _ _ _ _ _ (by omega) (by omega) (b2.trans (c2.trans (FR.w31 _ _))) (by rw [sI_wIk _ _ _ _ (by decide)]; exact c3) rfl rfl (sI_wIs _ _ _ _)
      · left
        rw [if_neg cr, if_neg (by rw [nI_ltI (by omega) (by omega)]; omega), if_pos (by rw [nh_lt (by omega) (by omega)]; omega)]
        refine ⟨w, skD T len q, σ1, σ3, by omega, by omega, ?_, rfl, a2, b2.trans c2, ⟨tx1, tm2.fr c2, hs2, t4, c3, z6, d2⟩, a4⟩
        unfold b_X2_readNumber_70
        rw [t5']
    · right
      have hc5 := c5 (by omega)
      have t5' : sI σ1 16 4 = -1 := by rw [t5]; exact if_neg c
      have em2 : f_X12_amount (nI l0) (hI h) σm = some (v, σ3) := by
        rw [em, c1, bnd]
        unfold b_X12_amount_26 b_X12_amount_54
        rw [hc5, q_zero (by omega), if_neg (by omega)]
      have hlt : (-1 : Int32) < nI l0 := by
        rw [Int32.lt_iff_toInt_lt, nI_toInt (by omega), show (-1 : Int32).toInt = -1 from by decide]; omega
      rw [ex, em2, if_pos t3, t5', if_pos hlt, e62]
      exact flt 1 (skD T len q) _ _ _ _ _ (by omega) (by omega) (b2.trans c2) c3 rfl rfl hc5
  all_goals
    right
    have hno : ¬ (q < len ∧ 48 ≤ T q ∧ T q ≤ 57) := by omega
    have hn1 : ¬ sI σ1 16 2 = (1 : Int32) := by
      first
        | (rw [t4]; decide)
        | (rw [t3]; decide)
        | (rw [t2]; decide)
    have em2 : f_X12_amount (nI l0) (hI h) σm = some (0, wI σ2 0 31 (nI (1 + 8 * q + 0))) := by
      rw [em, m_digits_no hl hT hno (by omega) tm2 b4 z31, bnd]
      unfold b_X12_amount_26 b_X12_amount_54
      rw [sI_wIs, q_zero (by omega), if_neg (by omega)]
    rw [ex, em2, if_neg hn1, x_fail (x := (0 : Int32)) (c := 0) (q := q) rfl z6 a4]
    exact flt 0 q _ _ _ _ _ (by omega) (by omega) (b2.trans (FR.w31 _ _)) (by rw [sI_wIk _ _ _ _ (by decide)]; exact b4) rfl rfl (sI_wIs _ _ _ _)
theorem x_numF {f : Nat} {σ : MS} (hf : f ≠ 0) (hf2 : f ≤ 4000) (h : sI σ 16 6 = nI f) (lo hi : Int32) : f_X2_readNumber lo hi σ = some (-1, σ) := by
  unfold f_X2_readNumber b_X2_readNumber_0
  rw [h, q_zero (by omega), if_neg hf]
end NN
end
