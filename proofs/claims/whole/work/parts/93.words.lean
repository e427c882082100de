/-! ===== pure: the reference's signs; words on both sides ===== -/
section
/-- only numbers 30 and 31 of the reference's own row change -/
def FR (σ σ' : MS) : Prop := Sm σ σ' ∧ (∀ b, b ≠ 0 → sI σ' b = sI σ b) ∧ (∀ j, j ≠ 30 → j ≠ 31 → sI σ' 0 j = sI σ 0 j)
theorem FR.refl (σ : MS) : FR σ σ := ⟨Sm.refl σ, fun _ _ => rfl, fun _ _ _ => rfl⟩
theorem FR.trans {σ σ' σ'' : MS} (h : FR σ σ') (g : FR σ' σ'') : FR σ σ'' := ⟨h.1.trans g.1, fun b hb => (g.2.1 b hb).trans (h.2.1 b hb), fun j h1 h2 => (g.2.2 j h1 h2).trans (h.2.2 j h1 h2)⟩
theorem FR.w30 (σ : MS) (v : Int32) : FR σ (wI σ 0 30 v) := ⟨⟨rfl, rfl, rfl⟩, fun b hb => sI_wIn _ _ _ _ hb, fun j h1 _ => sI_wIk _ _ _ _ h1⟩
theorem FR.w31 (σ : MS) (v : Int32) : FR σ (wI σ 0 31 v) := ⟨⟨rfl, rfl, rfl⟩, fun b hb => sI_wIn _ _ _ _ hb, fun j _ h2 => sI_wIk _ _ _ _ h2⟩
theorem TM.fr {len : Nat} {T : Nat → Nat} {σ σ' : MS} (h : TM len T σ) (hf : FR σ σ') : TM len T σ' := by
  unfold TM
  rw [hf.2.2 29 (by decide) (by decide), hf.2.1 28 (by decide)]; exact h
section MLx
variable {len : Nat} {T : Nat → Nat}
theorem m_sign {σ : MS} {p : Nat} (h : TM len T σ) (hl : len ≤ 400) (hT : ∀ i, i < len → T i < 256) (hp : p < 2 ^ 31) (e : sI σ 0 30 = nI p) : f_X12_sign σ = some (hI (cc T len p)) := by
  unfold f_X12_sign b_X12_sign_0 b_X12_sign_28
  rw [h.1, e, q_le (by omega) hp]
  by_cases c : p < len
  · rw [if_neg (by omega), chk_t (in_n (show p < 400 by omega) (by decide)), ix_n hp, h.2 p c, bI_and _ (hT p c), cc_in c, hI_s]
  · rw [if_pos (by omega), cc_out c]; rfl
theorem m_dig {σ : MS} {p : Nat} (h : TM len T σ) (hl : len ≤ 400) (hT : ∀ i, i < len → T i < 256) (hp : p < 2 ^ 31) (e : sI σ 0 30 = nI p) : f_X12_isDigit σ = some (nI (if p < len ∧ 48 ≤ T p ∧ T p ≤ 57 then 1 else 0)) := by
  unfold f_X12_isDigit b_X12_isDigit_0
  rw [m_sign h hl hT hp e, bnd, c_digm _ (cc_le hT p), bnd]
  by_cases c : p < len ∧ 48 ≤ T p ∧ T p ≤ 57
  · rw [if_pos (show 49 ≤ cc T len p ∧ cc T len p ≤ 58 by rw [cc_in c.1]; omega), if_pos c, chk_t (show nI 1 = 0 ∨ nI 1 = 1 from Or.inr rfl)]
  · have : ¬ (49 ≤ cc T len p ∧ cc T len p ≤ 58) := by
      by_cases c1 : p < len
      · rw [cc_in c1]; omega
      · rw [cc_out c1]; omega
    rw [if_neg this, if_neg c, chk_t (show nI 0 = 0 ∨ nI 0 = 1 from Or.inl rfl)]
theorem m_blank_loop (hl : len ≤ 400) (hT : ∀ i, i < len → T i < 256) : ∀ (j i n : Nat) (σ : MS), i + j = len → j < n → TM len T σ → sI σ 0 30 = nI i → ∃ σ', b_X12_blanks_0 n σ = some σ' ∧ FR σ σ' ∧ sI σ' 0 31 = sI σ 0 31 ∧ sI σ' 0 30 = nI (sk (isB T) j i)
  | 0, i, n + 1, σ, hi, _, h, e => by
    refine ⟨σ, ?_, FR.refl σ, rfl, e⟩
    unfold b_X12_blanks_0
    rw [m_sign h hl hT (by omega) e, bnd, cc_out (by omega), if_neg (by decide)]
  | j + 1, i, n + 1, σ, hi, hn, h, e => by
    have hti := hT i (by omega)
    have hb : b_X12_blanks_0 (n + 1) σ = if T i = 32 then b_X12_blanks_0 n (wI σ 0 30 (nI (i + 1))) else some σ := by
      conv => lhs; unfold b_X12_blanks_0
      rw [m_sign h hl hT (by omega) e, bnd, cc_in (by omega), hI_s, q_nl_eq (by decide) (by omega), e, nI_1]
    unfold sk isB
    by_cases c : T i = 32
    · obtain ⟨σ', g1, g2, g3, g4⟩ := m_blank_loop hl hT j (i + 1) n (wI σ 0 30 (nI (i + 1))) (by omega) (by omega) (h.fr (FR.w30 σ _)) (sI_wIs _ _ _ _)
      refine ⟨σ', by rw [hb, if_pos c]; exact g1, (FR.w30 σ _).trans g2, by rw [g3, sI_wIk _ _ _ _ (by decide)], ?_⟩
      rw [if_pos (by simp [c])]; exact g4
    · refine ⟨σ, by rw [hb, if_neg c], FR.refl σ, rfl, ?_⟩
      rw [if_neg (by simp [c])]; exact e
  | _, _, 0, _, _, hn, _, _ => absurd hn (Nat.not_lt_zero _)
theorem m_blanks (hl : len ≤ 400) (hT : ∀ i, i < len → T i < 256) {p : Nat} {σ : MS} (hp : p < 2 ^ 31) (h : TM len T σ) (e : sI σ 0 30 = nI p) : ∃ σ', f_X12_blanks σ = some σ' ∧ FR σ σ' ∧ sI σ' 0 31 = sI σ 0 31 ∧ sI σ' 0 30 = nI (skB T len p) := by
  have hF := FU_big
  by_cases c : p ≤ len
  · exact m_blank_loop hl hT (len - p) p FU σ (by omega) (by omega) h e
  · refine ⟨σ, ?_, FR.refl σ, rfl, by rw [skB_fix T (Or.inl (by omega))]; exact e⟩
    obtain ⟨F, hFe⟩ : ∃ F, FU = F + 1 := ⟨FU - 1, by omega⟩
    unfold f_X12_blanks
    rw [hFe]
    unfold b_X12_blanks_0
    rw [m_sign h hl hT hp e, bnd, cc_out (by omega), if_neg (by decide)]
/-- the word at p is the text k -/
def mtN (T : Nat → Nat) (len p k : Nat) : Nat := if skL T len p - p = slen.getD k 0 ∧ ∀ j, j < slen.getD k 0 → T (p + j) = chr k j then 1 else 0
theorem mtN_01 (T : Nat → Nat) (len p k : Nat) : mtN T len p k ≤ 1 := by unfold mtN; split <;> omega
theorem m_stood_chars (hl : len ≤ 400) (hT : ∀ i, i < len → T i < 256) {σ : MS} {p k : Nat} (hk : k < 23) (h : TM len T σ) (e : sI σ 0 30 = nI p) (hin : p + slen.getD k 0 ≤ len) : ∀ (j i n : Nat), i + j = slen.getD k 0 → j < n → (∀ v, v ≤ 1 → b_X12_stood_63 k n (nI v) (nI i) σ = some (nI (if v = 1 ∧ ∀ m, m < slen.getD k 0 → i ≤ m → T (p + m) = chr k m then 1 else 0)))
  | 0, i, n + 1, hi, _, v, hv => by
    have hs := slen_lt k hk
    unfold b_X12_stood_63 b_X12_stood_109
    rw [len_ok k hk, bnd, q_le (by omega) (by omega), if_pos (by omega)]
    rcases (by omega : v = 0 ∨ v = 1) with q | q
    · subst q; rw [if_neg (fun q => by omega), chk_t (show nI 0 = 0 ∨ nI 0 = 1 from Or.inl rfl)]
    · subst q; rw [if_pos (show 1 = 1 ∧ ∀ m, m < slen.getD k 0 → i ≤ m → T (p + m) = chr k m from ⟨rfl, fun m h2 h1 => by omega⟩), chk_t (show nI 1 = 0 ∨ nI 1 = 1 from Or.inr rfl)]
  | j + 1, i, n + 1, hi, hn, v, hv => by
    have hs := slen_lt k hk
    have ih := m_stood_chars hl hT hk h e hin j (i + 1) n (by omega) (by omega)
    have hti := hT (p + i) (by omega)
    have hck := chr_lt k hk i (by omega)
    unfold b_X12_stood_63 b_X12_stood_109 b_X12_stood_102
    rw [len_ok k hk, bnd, q_le (by omega) (by omega), if_neg (by omega)]
    rcases (by omega : v = 0 ∨ v = 1) with q | q
    · subst q; rw [if_pos (show nI 0 = 0 from rfl), if_neg (fun q => by omega), chk_t (show nI 0 = 0 ∨ nI 0 = 1 from Or.inl rfl)]
    · subst q
      rw [if_neg (show ¬ nI 1 = 0 by decide), e, nI_add, chk_t (in_n (show p + i < 400 by omega) (by decide)), chr_ok k hk i (by omega), bnd, ix_n (by omega), h.2 _ (by omega), nI_1]
      by_cases c : T (p + i) = chr k i
      · rw [if_pos ((bI_eq _ hti _ hck).mpr c), show (1 : Int32) = nI 1 from rfl, ih 1 (by omega)]
        by_cases c2 : ∀ m, m < slen.getD k 0 → i + 1 ≤ m → T (p + m) = chr k m
        · rw [if_pos ⟨rfl, c2⟩, if_pos ⟨rfl, fun m h2 h1 => by
            by_cases em : m = i
            · subst em; exact c
            · exact c2 m h2 (by omega)⟩]
        · rw [if_neg (fun q => c2 q.2), if_neg (fun q => c2 (fun m h2 h1 => q.2 m h2 (by omega)))]
      · rw [if_neg (fun q => c ((bI_eq _ hti _ hck).mp q)), show (0 : Int32) = nI 0 from rfl, ih 0 (by omega), if_neg (fun q => by omega), if_neg (fun q => c (q.2 i (by omega) (Nat.le_refl _)))]
  | _, _, 0, _, hn, _, _ => absurd hn (Nat.not_lt_zero _)
theorem m_stood_loop (hl : len ≤ 400) (hT : ∀ i, i < len → T i < 256) {σ : MS} {p k : Nat} (hk : k < 23) (h : TM len T σ) : ∀ (j i n : Nat), i + j = len → j < n → b_X12_stood_5 k n (nI i) σ = b_X12_stood_41 k (nI (sk (isL T) j i)) σ
  | 0, i, n + 1, hi, _ => by
    conv => lhs; unfold b_X12_stood_5
    rw [h.1, q_le (by omega) (by omega), if_pos (by omega)]; rfl
  | j + 1, i, n + 1, hi, hn => by
    have hti := hT i (by omega)
    have hlt := bI_let _ hti
    have bi : inb (nI i) 400 := in_n (by omega) (by decide)
    conv => lhs; unfold b_X12_stood_5
    rw [h.1, q_le (by omega) (by omega), if_neg (by omega), chk_t bi, chk_t bi, ix_n (by omega), h.2 i (by omega), nI_1]
    unfold sk isL
    by_cases c : 97 ≤ T i ∧ T i ≤ 122
    · rw [if_neg (fun q => by have := hlt.1.mp q; omega), if_neg (fun q => by have := hlt.2.mp q; omega), if_pos (by simp [c])]
      exact m_stood_loop hl hT (p := p) hk h j (i + 1) n (by omega) (by omega)
    · rw [if_neg (show ¬ decide (97 ≤ T i ∧ T i ≤ 122) = true by simpa using c)]
      by_cases c1 : ¬ 97 ≤ T i ∨ 128 ≤ T i
      · rw [if_pos (hlt.1.mpr c1)]
      · rw [if_neg (fun q => c1 (hlt.1.mp q)), if_pos (hlt.2.mpr (by omega))]
  | _, _, 0, _, hn => absurd hn (Nat.not_lt_zero _)
theorem m_stood (hl : len ≤ 400) (hT : ∀ i, i < len → T i < 256) {σ : MS} {p k : Nat} (hk : k < 23) (h : TM len T σ) (hp : p < 10000) (e : sI σ 0 30 = nI p) : f_X12_stood k σ = some (nI (mtN T len p k)) := by
  have hF := FU_big
  have hs := slen_lt k hk
  have e5 : f_X12_stood k σ = b_X12_stood_41 k (nI (skL T len p)) σ := by
    unfold f_X12_stood b_X12_stood_0
    rw [e]
    by_cases c : p ≤ len
    · exact m_stood_loop hl hT (p := p) hk h (len - p) p FU (by omega) (by omega)
    · obtain ⟨F, hFe⟩ : ∃ F, FU = F + 1 := ⟨FU - 1, by omega⟩
      have : skL T len p = p := by unfold skL; rw [show len - p = 0 by omega]; rfl
      rw [hFe, this]
      conv => lhs; unfold b_X12_stood_5
      rw [h.1, q_le (by omega) (by omega), if_pos (by omega)]
  have hsk := sk_le (isL T) (len - p) p
  have hle : p ≤ skL T len p ∧ skL T len p ≤ p + (len - p) := hsk
  rw [e5]
  unfold b_X12_stood_41 b_X12_stood_59
  rw [len_ok k hk, bnd, e, pk_sub hle.1, q_eq (by omega) (by omega)]
  unfold mtN
  by_cases c : skL T len p - p = slen.getD k 0
  · rw [if_pos c, show (1 : Int32) = nI 1 from rfl, show (0 : Int32) = nI 0 from rfl, m_stood_chars hl hT hk h e (by omega) (slen.getD k 0) 0 FU (by omega) (by omega) 1 (by omega)]
    by_cases c2 : ∀ j, j < slen.getD k 0 → T (p + j) = chr k j
    · rw [if_pos (show 1 = 1 ∧ ∀ m, m < slen.getD k 0 → 0 ≤ m → T (p + m) = chr k m from ⟨rfl, fun m h2 _ => c2 m h2⟩), if_pos (show skL T len p - p = slen.getD k 0 ∧ _ from ⟨c, c2⟩)]
    · rw [if_neg (show ¬ (1 = 1 ∧ ∀ m, m < slen.getD k 0 → 0 ≤ m → T (p + m) = chr k m) from fun q => c2 (fun j hj => q.2 j hj (by omega))), if_neg (show ¬ (skL T len p - p = slen.getD k 0 ∧ _) from fun q => c2 q.2)]
  · rw [if_neg c, if_neg (fun q => c q.1)]
    obtain ⟨F, hFe⟩ : ∃ F, FU = F + 1 := ⟨FU - 1, by omega⟩
    rw [hFe]
    unfold b_X12_stood_63 b_X12_stood_109
    rw [len_ok k hk, bnd, if_neg (show ¬ nI (slen.getD k 0) ≤ (0 : Int32) by rw [nl_le (by decide) (by omega)]; omega), if_pos rfl, chk_t (Or.inl rfl)]; rfl
end MLx
section XW
variable {a len : Nat} {T : Nat → Nat}
/-- the class compares a piece of a text with the word that it has read -/
theorem x_spells {σ : MS} (hl : len ≤ 400) (hT : ∀ i, i < len → T i < 256) (h : TX len T σ) {q e k k1 fr to : Nat} (hk : k < 23) (hk1 : k1 < 23) (hq : q ≤ e) (he : e ≤ len) (e1 : sI σ a 1 = nI e) (e3 : sI σ a 3 = nI q) (hft : fr + slen.getD k 0 = to) (hto : to ≤ slen.getD k1 0) (hch : ∀ j, j < slen.getD k 0 → chr k1 (fr + j) = chr k j) : f_X4_spells a k1 (nI fr) (nI to) σ = some (nI (if e - q = slen.getD k 0 ∧ ∀ j, j < slen.getD k 0 → T (q + j) = chr k j then 1 else 0)) := by
  have hF := FU_big
  have hs := slen_lt k hk
  have hs1 := slen_lt k1 hk1
  have loop : e - q = slen.getD k 0 → ∀ (j i n : Nat), i + j = slen.getD k 0 → j < n → b_X4_spells_20 a k1 n (nI fr) (nI to) (nI (fr + i)) σ = some (nI (if ∀ m, m < slen.getD k 0 → i ≤ m → T (q + m) = chr k m then 1 else 0)) := by
    intro hlen j
    induction j with
    | zero =>
      intro i n hi hn
      obtain ⟨n, rfl⟩ : ∃ n', n = n' + 1 := ⟨n - 1, by omega⟩
      unfold b_X4_spells_20
      rw [q_le (by omega) (by omega), if_pos (by omega), if_pos (fun m h2 h1 => by omega)]; rfl
    | succ j ih =>
      intro i n hi hn
      obtain ⟨n, rfl⟩ : ∃ n', n = n' + 1 := ⟨n - 1, by omega⟩
      have ih := ih (i + 1) n (by omega) (by omega)
      have hti := hT (q + i) (by omega)
      have hck := chr_lt k hk i (by omega)
      unfold b_X4_spells_20
      rw [q_le (by omega) (by omega), if_neg (by omega), chr_ok k1 hk1 _ (by omega), bnd, hch i (by omega), e3, nI_add, pk_sub (by omega), show q + (fr + i) - fr = q + i by omega, x_byte h hl (by omega), bnd, cc_in (by omega), hI_s, q_eq (by omega) (by omega), nI_1, Nat.add_assoc]
      by_cases c : T (q + i) = chr k i
      · rw [if_pos c.symm, ih]
        by_cases c2 : ∀ m, m < slen.getD k 0 → i + 1 ≤ m → T (q + m) = chr k m
        · rw [if_pos c2, if_pos (fun m h2 h1 => by
            by_cases em : m = i
            · subst em; exact c
            · exact c2 m h2 (by omega))]
        · rw [if_neg c2, if_neg (fun z => c2 (fun m h2 h1 => z m h2 (by omega)))]
      · rw [if_neg (fun z => c z.symm), if_neg (fun z => c (z i (by omega) (Nat.le_refl _)))]; rfl
  unfold f_X4_spells b_X4_spells_0
  rw [e1, e3, pk_sub (by omega), pk_sub hq, q_eq (by omega) (by omega), show to - fr = slen.getD k 0 by omega]
  by_cases c : e - q = slen.getD k 0
  · have := loop c (slen.getD k 0) 0 FU (by omega) (by omega)
    rw [Nat.add_zero] at this
    rw [if_pos c.symm, this]
    by_cases c2 : ∀ j, j < slen.getD k 0 → T (q + j) = chr k j
    · rw [if_pos (show ∀ m, m < slen.getD k 0 → 0 ≤ m → T (q + m) = chr k m from fun m h2 _ => c2 m h2), if_pos (show e - q = slen.getD k 0 ∧ _ from ⟨c, c2⟩)]
    · rw [if_neg (show ¬ ∀ m, m < slen.getD k 0 → 0 ≤ m → T (q + m) = chr k m from fun z => c2 (fun j hj => z j hj (by omega))), if_neg (show ¬ (e - q = slen.getD k 0 ∧ _) from fun z => c2 z.2)]
  · rw [if_neg (fun z => c z.symm), if_neg (fun z => c z.1)]; rfl
/-- which of the words: 0 none -/
def wsr (M : Nat → Nat) : List Nat → Nat → Nat
  | [], _ => 0
  | k :: l, i => if M k = 1 then i + 1 else wsr M l (i + 1)
theorem wsr_le (M : Nat → Nat) : ∀ (l : List Nat) (i : Nat), wsr M l i ≤ i + l.length
  | [], i => by show 0 ≤ _; omega
  | k :: l, i => by
    unfold wsr
    have := wsr_le M l (i + 1)
    rw [List.length_cons]
    split <;> omega
/-- the words stand in the text one behind another -/
def okWs (k1 : Nat) : Nat → List Nat → Bool
  | st, [] => decide (st = slen.getD k1 0 + 1)
  | st, k :: l => decide (k < 23) && decide (st + slen.getD k 0 ≤ slen.getD k1 0) && (List.range (slen.getD k 0)).all (fun j => decide (chr k1 (st + j) = chr k j) && decide (chr k1 (st + j) ≠ 32)) && (decide (st + slen.getD k 0 = slen.getD k1 0) || decide (chr k1 (st + slen.getD k 0) = 32)) && okWs k1 (st + slen.getD k 0 + 1) l
theorem x_wordAt {σ : MS} {k1 : Nat} (hk1 : k1 < 23) {to : Nat} (hto : to ≤ slen.getD k1 0) (hend : to = slen.getD k1 0 ∨ chr k1 to = 32) {idx fr : Nat} (hidx : idx < 100) : ∀ (j i n : Nat), i + j = to → (∀ m, i ≤ m → m < to → chr k1 m ≠ 32) → b_X4_wordAmong_17 a k1 (n + j + 1) (nI idx) (nI fr) (nI i) σ = b_X4_wordAmong_46 a k1 (b_X4_wordAmong_17 a k1 n) (nI idx) (nI fr) (nI to) σ
  | 0, i, n, hi, _ => by
    have hs1 := slen_lt k1 hk1
    have ei : i = to := by omega
    subst ei
    conv => lhs; unfold b_X4_wordAmong_17
    rw [len_ok k1 hk1, bnd, q_lt (by omega) (by omega), if_neg (by omega), bnd, q_eq (by omega) (by omega)]
    by_cases c : i = slen.getD k1 0
    · rw [if_pos c]
    · rw [if_neg c, chr_ok k1 hk1 i (by omega), bnd]
      rcases hend with q | q
      · exact absurd q c
      · rw [q, if_pos (by decide)]
  | j + 1, i, n, hi, hm => by
    have hs1 := slen_lt k1 hk1
    have hck := chr_lt k1 hk1 i (by omega)
    have := hm i (by omega) (by omega)
    conv => lhs; unfold b_X4_wordAmong_17 b_X4_wordAmong_67
    rw [len_ok k1 hk1, bnd, q_lt (by omega) (by omega), if_neg (by omega), bnd, q_eq (by omega) (by omega), if_neg (by omega), chr_ok k1 hk1 i (by omega), bnd, q_nl_eq (by decide) (by omega), if_neg this, nI_1]
    exact x_wordAt hk1 hto hend hidx j (i + 1) n (by omega) (fun m h1 h2 => hm m (by omega) h2)
theorem x_among_loop {σ : MS} (hl : len ≤ 400) (hT : ∀ i, i < len → T i < 256) (h : TX len T σ) {q k1 : Nat} (hk1 : k1 < 23) (hq : q ≤ len) (e1 : sI σ a 1 = nI (skL T len q)) (e3 : sI σ a 3 = nI q) : ∀ (l : List Nat) (st idx n : Nat), okWs k1 st l = true → idx + l.length < 50 → 200 < n + st → b_X4_wordAmong_17 a k1 n (nI idx) (nI st) (nI st) σ = some (hI (wsr (mtN T len q) l idx))
  | [], st, idx, n, hok, _, hn => by
    have hs1 := slen_lt k1 hk1
    have hst : st = slen.getD k1 0 + 1 := by simpa [okWs] using hok
    obtain ⟨n, rfl⟩ : ∃ n', n = n' + 1 := ⟨n - 1, by omega⟩
    unfold b_X4_wordAmong_17
    rw [len_ok k1 hk1, bnd, q_lt (by omega) (by omega), if_pos (by omega)]; rfl
  | k :: l, st, idx, n, hok, hidx, hn => by
    have hs1 := slen_lt k1 hk1
    unfold okWs at hok
    simp only [Bool.and_eq_true, Bool.or_eq_true, decide_eq_true_eq, List.all_eq_true, List.mem_range] at hok
    obtain ⟨⟨⟨⟨o1, o2⟩, o3⟩, o4⟩, o5⟩ := hok
    have hs := slen_lt k o1
    rw [List.length_cons] at hidx
    obtain ⟨n', hn'⟩ : ∃ n', n = n' + slen.getD k 0 + 1 := ⟨n - slen.getD k 0 - 1, by omega⟩
    have hsp := x_spells (a := a) (σ := σ) hl hT h (k := k) (k1 := k1) (fr := st) (to := st + slen.getD k 0) o1 hk1 (skL_le T hq).1 (skL_le T hq).2 e1 e3 rfl o2 (fun j hj => (o3 j hj).1)
    rw [hn', x_wordAt hk1 o2 o4 (by omega) (slen.getD k 0) st n' rfl (fun m h1 h2 => by
      have := (o3 (m - st) (by omega)).2
      rw [show st + (m - st) = m by omega] at this
      exact this)]
    unfold b_X4_wordAmong_46 b_X4_wordAmong_67
    rw [hsp, bnd]
    unfold wsr
    have ih := x_among_loop hl hT h hk1 hq e1 e3 l (st + slen.getD k 0 + 1) (idx + 1) n' o5 (by omega) (by omega)
    by_cases c : mtN T len q k = 1
    · rw [if_pos c]
      unfold mtN at c
      by_cases c2 : skL T len q - q = slen.getD k 0 ∧ ∀ j, j < slen.getD k 0 → T (q + j) = chr k j
      · rw [if_pos c2, if_neg (by decide), hI_s]
      · rw [if_neg c2] at c; omega
    · rw [if_neg c]
      unfold mtN at c
      by_cases c2 : skL T len q - q = slen.getD k 0 ∧ ∀ j, j < slen.getD k 0 → T (q + j) = chr k j
      · rw [if_pos c2] at c; omega
      · rw [if_neg c2, if_pos (show nI 0 = 0 from rfl), nI_1, nI_1]; exact ih
theorem x_among {σ : MS} (hl : len ≤ 400) (hT : ∀ i, i < len → T i < 256) (h : TX len T σ) {q k1 : Nat} (hk1 : k1 < 23) (hq : q ≤ len) (e2 : sI σ a 2 = 2) (e1 : sI σ a 1 = nI (skL T len q)) (e3 : sI σ a 3 = nI q) {l : List Nat} (hok : okWs k1 0 l = true) (hll : l.length < 50) : f_X4_wordAmong a k1 σ = some (hI (wsr (mtN T len q) l 0)) := by
  have hF := FU_big
  unfold f_X4_wordAmong b_X4_wordAmong_0
  rw [e2, if_pos rfl]
  exact x_among_loop hl hT h hk1 hq e1 e3 l 0 0 FU hok (by omega) (by omega)
/-- no word begins where no letter stands -/
theorem mtN_no {p k : Nat} (hk : k < 23) (h : ¬ (p < len ∧ 97 ≤ T p ∧ T p ≤ 122)) : mtN T len p k = 0 := by
  have hs := slen_lt k hk
  have e : skL T len p = p := by
    unfold skL
    cases c : len - p with
    | zero => rfl
    | succ j =>
      unfold sk isL
      rw [if_neg]
      simp; omega
  unfold mtN
  rw [if_neg (fun q => by rw [e] at q; omega)]
theorem wsr_no (M : Nat → Nat) : ∀ (l : List Nat) (i : Nat), (∀ k, k ∈ l → M k ≠ 1) → wsr M l i = 0
  | [], _, _ => rfl
  | k :: l, i, h => by
    unfold wsr
    rw [if_neg (h k (List.mem_cons_self))]
    exact wsr_no M l (i + 1) (fun k' hk' => h k' (List.mem_cons_of_mem _ hk'))
theorem x_among_tok {σ : MS} (hl : len ≤ 400) (hT : ∀ i, i < len → T i < 256) (h : TX len T σ) {q k1 : Nat} (hk1 : k1 < 23) (hq : q ≤ len) (ht : TokX a T len q σ) (e3 : sI σ a 3 = nI q) {l : List Nat} (hok : okWs k1 0 l = true) (hll : l.length < 50) (hl23 : ∀ k, k ∈ l → k < 23) : f_X4_wordAmong a k1 σ = some (hI (wsr (mtN T len q) l 0)) := by
  have no : ¬ (q < len ∧ 97 ≤ T q ∧ T q ≤ 122) → ¬ sI σ a 2 = 2 → f_X4_wordAmong a k1 σ = some (hI (wsr (mtN T len q) l 0)) := fun c c2 => by
    rw [wsr_no _ l 0 (fun k hk => by rw [mtN_no (hl23 k hk) c]; decide)]
    unfold f_X4_wordAmong b_X4_wordAmong_0
    rw [if_neg c2]; rfl
  rcases ht with ⟨t1, t2, t3⟩ | ⟨t1, t2, t3, t4, t5⟩ | ⟨t1, t2, t3, t4⟩ | ⟨t1, t2, t3, t4, t5⟩
  · exact no (by omega) (by rw [t2]; decide)
  · exact no (by omega) (by rw [t3]; decide)
  · exact x_among hl hT h hk1 hq t3 t4 e3 hok hll
  · exact no (fun z => t3 z.2) (by rw [t4]; decide)
end XW
theorem ok_w0 : okWs 0 0 [3, 4, 5, 6, 7, 8] = true := by decide +kernel
theorem ok_w1 : okWs 1 0 [9, 19, 21, 22, 20] = true := by decide +kernel
theorem ok_w2 : okWs 2 0 [5, 6, 4, 10, 11, 12, 13, 14, 15, 16, 17, 18] = true := by decide +kernel
end
