/-! ===== pure: the reference's entries while a rule is read ===== -/
section
def EM (σ : MS) (r : Nat) (es : List Ent) (v : Nat) : Prop := sI σ 0 32 = nI r ∧ sI σ 0 34 = nI es.length ∧ RMc σ r 0 es ∧ sI σ 0 36 = nI v ∧ sI σ 0 38 = nI 12
def TK (σ : MS) (d : Nat) (W : List Nat) : Prop := sI σ 0 35 = nI d ∧ sI σ 0 37 = nI W.length ∧ ∀ i, i < W.length → sI σ 35 (W.length - 1 - i) = nI (W.getD i 0 - 3)
def FQ (r : Nat) (σ σ' : MS) : Prop := Sm σ σ' ∧ (∀ b, b ≠ 0 → b ≠ 29 → b ≠ 30 → b ≠ 35 → sI σ' b = sI σ b) ∧ (∀ j, j < 30 ∨ j = 32 ∨ j = 33 ∨ 37 < j → sI σ' 0 j = sI σ 0 j) ∧ (∀ i, i < 300 * r → sI σ' 29 i = sI σ 29 i ∧ sI σ' 30 i = sI σ 30 i)
theorem FQ.refl (r : Nat) (σ : MS) : FQ r σ σ := ⟨Sm.refl σ, fun _ _ _ _ _ => rfl, fun _ _ => rfl, fun _ _ => ⟨rfl, rfl⟩⟩
theorem FQ.trans {r : Nat} {σ σ' σ'' : MS} (h : FQ r σ σ') (g : FQ r σ' σ'') : FQ r σ σ'' := ⟨h.1.trans g.1, fun b h1 h2 h3 h4 => (g.2.1 b h1 h2 h3 h4).trans (h.2.1 b h1 h2 h3 h4), fun j hj => (g.2.2.1 j hj).trans (h.2.2.1 j hj), fun i hi => ⟨(g.2.2.2 i hi).1.trans (h.2.2.2 i hi).1, (g.2.2.2 i hi).2.trans (h.2.2.2 i hi).2⟩⟩
theorem FR.f2 {σ σ' : MS} (r : Nat) (h : FR σ σ') : FQ r σ σ' := ⟨h.1, fun b h0 _ _ _ => h.2.1 b h0, fun j hj => h.2.2 j (by omega) (by omega), fun i _ => ⟨by rw [h.2.1 29 (by decide)], by rw [h.2.1 30 (by decide)]⟩⟩
theorem FQ.w0 (r : Nat) (σ : MS) {k : Nat} (v : Int32) (h : 30 ≤ k ∧ k ≤ 37 ∧ k ≠ 32 ∧ k ≠ 33) : FQ r σ (wI σ 0 k v) := ⟨⟨rfl, rfl, rfl⟩, fun b h0 _ _ _ => sI_wIn _ _ _ _ h0, fun j hj => sI_wIk _ _ _ _ (by omega), fun i _ => ⟨by rw [sI_wIn _ _ _ _ (by decide)], by rw [sI_wIn _ _ _ _ (by decide)]⟩⟩
theorem FQ.w35 (r : Nat) (σ : MS) (k : Nat) (v : Int32) : FQ r σ (wI σ 35 k v) := ⟨⟨rfl, rfl, rfl⟩, fun b _ _ _ h => sI_wIn _ _ _ _ h, fun j _ => by rw [sI_wIn _ _ _ _ (by decide)], fun i _ => ⟨by rw [sI_wIn _ _ _ _ (by decide)], by rw [sI_wIn _ _ _ _ (by decide)]⟩⟩
theorem RMc.snoc {σ σ' : MS} {r : Nat} {es : List Ent} {e : Ent} (h : RMc σ r 0 es) (h29 : ∀ i, i < es.length → sI σ' 29 (300 * r + 0 + i) = sI σ 29 (300 * r + 0 + i)) (h30 : ∀ i, i < es.length → sI σ' 30 (300 * r + 0 + i) = sI σ 30 (300 * r + 0 + i)) (g1 : sI σ' 29 (300 * r + 0 + es.length) = nI (trm e.1)) (g2 : sI σ' 30 (300 * r + 0 + es.length) = nI e.2) : RMc σ' r 0 (es ++ [e]) := by
  intro j hj
  by_cases c : j = es.length
  · subst c
    have e1 : (es ++ [e]).getD es.length (0, 0) = e := by simp
    rw [e1]; exact ⟨g1, g2⟩
  · have hj' : j < es.length := by simp at hj; omega
    have e1 : (es ++ [e]).getD j (0, 0) = es.getD j (0, 0) := by
      rw [List.getD_eq_getElem?_getD, List.getD_eq_getElem?_getD, List.getElem?_append_left hj']
    rw [e1, h29 j hj', h30 j hj']; exact h j hj'
theorem m_entry {σ : MS} {r v : Nat} {es : List Ent} {e : Ent} {x y : Int32} (hx : x = nI (trm e.1)) (hy : y = nI e.2) (hf : sI σ 0 31 = 0) (h : EM σ r es v) (hr : r < 6) (hl : es.length < 300) : ∃ σ', f_X12_entry x y σ = some σ' ∧ EM σ' r (es ++ [e]) v ∧ FQ r σ σ' ∧ (∀ j, j ≠ 34 → sI σ' 0 j = sI σ 0 j) ∧ sI σ' 35 = sI σ 35 := by
  subst hx hy
  obtain ⟨h1, h2, h3, h4, h5⟩ := h
  have e0 : (300 : Int32) * nI r + nI es.length = nI (300 * r + es.length) := by rw [ln_mul, nI_add]
  unfold f_X12_entry b_X12_entry_0
  rw [if_pos hf, h1, h2, e0, chk_t (in_n (by omega) (by decide)), ix_n (by omega)]
  have k1 : sI (wI σ 29 (300 * r + es.length) (nI (trm e.1))) 0 = sI σ 0 := sI_wIn _ _ _ _ (by decide)
  rw [k1, h1, h2, e0, chk_t (in_n (by omega) (by decide)), ix_n (by omega)]
  unfold b_X12_entry_45 b_X12_entry_55
  have q0 : sI (wI (wI σ 29 (300 * r + es.length) (nI (trm e.1))) 30 (300 * r + es.length) (nI e.2)) 0 = sI σ 0 := by rw [sI_wIn _ _ _ _ (by decide), k1]
  rw [q0, h2, nl_add]
  have q29 : ∀ i, sI (wI (wI (wI σ 29 (300 * r + es.length) (nI (trm e.1))) 30 (300 * r + es.length) (nI e.2)) 0 34 (nI (es.length + 1))) 29 i = if i = 300 * r + es.length then nI (trm e.1) else sI σ 29 i := fun i => by
    rw [sI_wIn _ _ _ _ (by decide), sI_wIn _ _ _ _ (by decide), sI_r]
  have q30 : ∀ i, sI (wI (wI (wI σ 29 (300 * r + es.length) (nI (trm e.1))) 30 (300 * r + es.length) (nI e.2)) 0 34 (nI (es.length + 1))) 30 i = if i = 300 * r + es.length then nI e.2 else sI σ 30 i := fun i => by
    rw [sI_wIn _ _ _ _ (by decide), sI_r, sI_wIn _ _ _ _ (by decide)]
  have qj : ∀ j, j ≠ 34 → sI (wI (wI (wI σ 29 (300 * r + es.length) (nI (trm e.1))) 30 (300 * r + es.length) (nI e.2)) 0 34 (nI (es.length + 1))) 0 j = sI σ 0 j := fun j hj => by
    rw [sI_r, if_neg hj, q0]
  refine ⟨_, rfl, ⟨by rw [qj 32 (by decide)]; exact h1, by rw [sI_r, if_pos rfl]; simp, ?_, by rw [qj 36 (by decide)]; exact h4, by rw [qj 38 (by decide)]; exact h5⟩, ⟨⟨rfl, rfl, rfl⟩, fun b g0 g1 g2 _ => by rw [sI_wIn _ _ _ _ g0, sI_wIn _ _ _ _ g2, sI_wIn _ _ _ _ g1], fun j hj => qj j (by omega), fun i hi => ⟨by rw [q29, if_neg (by omega)], by rw [q30, if_neg (by omega)]⟩⟩, qj, by rw [sI_wIn _ _ _ _ (by decide), sI_wIn _ _ _ _ (by decide), sI_wIn _ _ _ _ (by decide)]⟩
  exact h3.snoc (fun i hi => by rw [q29, if_neg (by omega)]) (fun i hi => by rw [q30, if_neg (by omega)]) (by rw [q29, if_pos (by omega)]) (by rw [q30, if_pos (by omega)])
theorem m_entryF {σ : MS} {f : Nat} (hf : f ≠ 0) (hf2 : f ≤ 4000) (h : sI σ 0 31 = nI f) (x y : Int32) : f_X12_entry x y σ = some σ := by
  unfold f_X12_entry b_X12_entry_0
  rw [h, if_neg (by rw [n_zero (by omega)]; exact hf)]; rfl
theorem m_countF {σ : MS} {f r : Nat} (hf : f ≠ 0) (hf2 : f ≤ 4000) (h : sI σ 0 31 = nI f) (x : Int32) : ∃ σ', f_X12_isCounted x σ = some σ' ∧ FQ r σ σ' ∧ (∀ j, j ≠ 36 → sI σ' 0 j = sI σ 0 j) := by
  unfold f_X12_isCounted b_X12_isCounted_0 b_X12_isCounted_15
  by_cases c : sI σ 0 36 = (60 : Int32)
  · rw [if_pos c, m_fails_f h hf (by omega), bnd]
    refine ⟨_, rfl, (FQ.w0 r σ _ (by decide)).trans (FQ.w0 r _ _ (by decide)), fun j hj => ?_⟩
    rw [sI_r, if_neg hj, sI_r]
    split
    · rename_i e; rw [e]; exact h.symm
    · rfl
  · rw [if_neg c]
    exact ⟨_, rfl, FQ.w0 r σ _ (by decide), fun j hj => by rw [sI_r, if_neg hj]⟩
end
section VF
variable {len : Nat} {T : Nat → Nat}
theorem FltM.fw {f r : Nat} {σ σ' : MS} (h : FltM T len f σ) (g : FQ r σ σ') (h30 : sI σ' 0 30 = sI σ 0 30) (h31 : sI σ' 0 31 = sI σ 0 31) : FltM T len f σ' := by
  obtain ⟨⟨t1, t2⟩, ⟨p, p1, p2⟩, h3⟩ := h
  exact ⟨⟨by rw [g.2.2.1 29 (by omega)]; exact t1, by rw [g.2.1 28 (by decide) (by decide) (by decide) (by decide)]; exact t2⟩, ⟨p, p1, by rw [h30]; exact p2⟩, by rw [h31]; exact h3⟩
theorem m_digF_loop (hl : len ≤ 400) (hT : ∀ i, i < len → T i < 256) {f : Nat} (hf : f ≠ 0) (hf2 : f ≤ 4000) : ∀ (j p n : Nat) (y1 y2 y3 : Int32) (σ : MS), p ≤ 1000 → len ≤ p + j → j < n → TM len T σ → sI σ 0 30 = nI p → sI σ 0 31 = nI f → ∃ v σ', b_X12_digits_25 n y1 y2 y3 σ = some (v, σ') ∧ FR σ σ' ∧ FltM T len f σ'
  | j, p, n + 1, y1, y2, y3, σ, hp, hj, hn, tm, e30, e31 => by
    unfold b_X12_digits_25
    rw [m_dig tm hl hT (by omega) e30, bnd]
    by_cases c : p < len ∧ 48 ≤ T p ∧ T p ≤ 57
    · rw [if_pos c, if_neg (show ¬ nI 1 = 0 by decide)]
      have tm2 : TM len T (wI σ 0 30 (nI (p + 1))) := tm.fr (FR.w30 σ _)
      have z31 : sI (wI σ 0 30 (nI (p + 1))) 0 31 = nI f := by rw [sI_r, if_neg (by decide)]; exact e31
      have z30 : sI (wI σ 0 30 (nI (p + 1))) 0 30 = nI (p + 1) := by rw [sI_r, if_pos rfl]
      by_cases c2 : (5 : Int32) ≤ sI σ 0 30 - y2
      · rw [if_pos c2]
        unfold b_X12_digits_58
        rw [e30, nl_add]
        obtain ⟨v, σ', a1, a2, a3⟩ := m_digF_loop hl hT hf hf2 (j - 1) (p + 1) n y1 y2 y3 (wI σ 0 30 (nI (p + 1))) (by omega) (by omega) (by omega) tm2 z30 z31
        exact ⟨v, σ', a1, (FR.w30 σ _).trans a2, a3⟩
      · rw [if_neg c2, m_sign tm hl hT (by omega) e30, bnd]
        unfold b_X12_digits_58
        rw [e30, nl_add]
        obtain ⟨v, σ', a1, a2, a3⟩ := m_digF_loop hl hT hf hf2 (j - 1) (p + 1) n y1 y2 ((10 : Int32) * y3 + hI (cc T len p) - (48 : Int32)) (wI σ 0 30 (nI (p + 1))) (by omega) (by omega) (by omega) tm2 z30 z31
        exact ⟨v, σ', a1, (FR.w30 σ _).trans a2, a3⟩
    · rw [if_neg c, if_pos (show nI 0 = 0 from rfl)]
      have hF : FltM T len f σ := ⟨tm, ⟨p, hp, e30⟩, e31⟩
      have k87 : ∃ v σ', b_X12_digits_87 y2 y3 σ = some (v, σ') ∧ FR σ σ' ∧ FltM T len f σ' := by
        unfold b_X12_digits_87 b_X12_digits_93
        rw [m_fails_f e31 hf (by omega), bnd]
        refine ⟨_, _, rfl, FR.w31 σ _, ⟨tm.fr (FR.w31 σ _), ⟨p, hp, by rw [sI_r, if_neg (by decide)]; exact e30⟩, by rw [sI_r, if_pos rfl]⟩⟩
      split
      · exact k87
      · split
        · exact ⟨_, _, rfl, FR.refl σ, hF⟩
        · exact k87
  | _, _, 0, _, _, _, _, _, _, hn, _, _, _ => absurd hn (Nat.not_lt_zero _)
theorem m_wordsF (hl : len ≤ 400) (hT : ∀ i, i < len → T i < 256) {f r : Nat} (hf : f ≠ 0) (hf2 : f ≤ 4000) : ∀ (j i n : Nat) (y1 : Int32) (σ : MS), i + j = 12 → j < n → FltM T len f σ → sI σ 0 38 = nI 12 → ∃ σ', b_X12_value_37 n y1 (nI i) σ = some σ' ∧ FQ r σ σ' ∧ FltM T len f σ'
  | j, i, n + 1, y1, σ, hj, hn, hF, h38 => by
    obtain ⟨tm, ⟨p, hp, e30⟩, e31⟩ := hF
    have hF : FltM T len f σ := ⟨tm, ⟨p, hp, e30⟩, e31⟩
    have hw : ∀ i, i < 12 → f_X12_wordOf (nI i) = some ([5, 6, 4, 10, 11, 12, 13, 14, 15, 16, 17, 18].getD i 0) ∧ [5, 6, 4, 10, 11, 12, 13, 14, 15, 16, 17, 18].getD i 0 < 23 := by decide +kernel
    unfold b_X12_value_37
    rw [h38, q_le (by decide) (by omega)]
    have h62 : i < 12 → mtN T len p ([5, 6, 4, 10, 11, 12, 13, 14, 15, 16, 17, 18].getD i 0) = 1 → ∃ σ', b_X12_value_62 y1 (nI i) σ = some σ' ∧ FQ r σ σ' ∧ FltM T len f σ' := fun hi hm => by
      unfold b_X12_value_62
      rw [h38, if_neg (by rw [nI_eq (by omega) (by decide)]; omega)]
      obtain ⟨σ1, a1, a2, a3⟩ := m_countF (r := r) hf hf2 e31 y1
      have hk := (hw i hi).2
      rw [a1, bnd, (hw i hi).1, bnd, chk_t hk, len_ok _ hk, bnd, a3 30 (by decide), e30, nI_add]
      have g31 : sI (wI σ1 0 30 (nI (p + slen.getD ([5, 6, 4, 10, 11, 12, 13, 14, 15, 16, 17, 18].getD i 0) 0))) 0 31 = nI f := by rw [sI_r, if_neg (by decide), a3 31 (by decide)]; exact e31
      rw [m_entryF hf hf2 g31, bnd]
      have hlen : p + slen.getD ([5, 6, 4, 10, 11, 12, 13, 14, 15, 16, 17, 18].getD i 0) 0 ≤ 1000 := by
        have hm' : skL T len p - p = slen.getD ([5, 6, 4, 10, 11, 12, 13, 14, 15, 16, 17, 18].getD i 0) 0 := by
          unfold mtN at hm
          split at hm
          · rename_i hh; exact hh.1
          · cases hm
        have hpos := (slen_lt _ hk).2
        by_cases c : p ≤ len
        · have := skL_le T c
          omega
        · have h0 : skL T len p = p := by unfold skL; rw [show len - p = 0 by omega]; rfl
          omega
      refine ⟨_, rfl, a2.trans (FQ.w0 r _ _ (by decide)), ?_⟩
      obtain ⟨⟨t1, t2⟩, _, _⟩ := hF
      refine ⟨⟨?_, ?_⟩, ⟨_, hlen, by rw [sI_r, if_pos rfl]⟩, g31⟩
      · rw [sI_r, if_neg (by decide), a3 29 (by decide)]; exact t1
      · rw [sI_wIn _ _ _ _ (by decide), a2.2.1 28 (by decide) (by decide) (by decide) (by decide)]; exact t2
    by_cases c : 12 ≤ i
    · rw [if_pos c]
      unfold b_X12_value_62
      rw [h38, if_pos (by rw [show i = 12 by omega]), m_fails_f e31 hf (by omega), bnd]
      exact ⟨_, rfl, (FR.w31 σ _).f2 r, ⟨tm.fr (FR.w31 σ _), ⟨p, hp, by rw [sI_r, if_neg (by decide)]; exact e30⟩, by rw [sI_r, if_pos rfl]⟩⟩
    · rw [if_neg c, (hw i (by omega)).1, bnd, chk_t (hw i (by omega)).2, m_stood hl hT (hw i (by omega)).2 tm (by omega) e30, bnd]
      by_cases c2 : mtN T len p ([5, 6, 4, 10, 11, 12, 13, 14, 15, 16, 17, 18].getD i 0) = 1
      · rw [c2, if_neg (show ¬ nI 1 = 0 by decide)]
        exact h62 (by omega) c2
      · have := mtN_01 T len p ([5, 6, 4, 10, 11, 12, 13, 14, 15, 16, 17, 18].getD i 0)
        rw [show mtN T len p ([5, 6, 4, 10, 11, 12, 13, 14, 15, 16, 17, 18].getD i 0) = 0 by omega, if_pos (show nI 0 = 0 from rfl), nl_add]
        exact m_wordsF hl hT hf hf2 (j - 1) (i + 1) n y1 σ (by omega) (by omega) hF h38
  | _, _, 0, _, _, _, hn, _, _ => absurd hn (Nat.not_lt_zero _)
theorem m_valueF (hl : len ≤ 400) (hT : ∀ i, i < len → T i < 256) {f r : Nat} (hf : f ≠ 0) (hf2 : f ≤ 4000) {σ : MS} (h : FltM T len f σ) (h38 : sI σ 0 38 = nI 12) : ∃ σ', f_X12_value σ = some σ' ∧ FQ r σ σ' ∧ FltM T len f σ' := by
  obtain ⟨σ1, a1, a2, a3⟩ := h.blanks hl hT
  unfold f_X12_value b_X12_value_0
  obtain ⟨tm, ⟨p, hp, e30⟩, e31⟩ := a3
  rw [a1, bnd, m_dig tm hl hT (by omega) e30, bnd]
  have g38 : sI σ1 0 38 = nI 12 := by rw [a2.2.2 38 (by decide) (by decide)]; exact h38
  by_cases c : p < len ∧ 48 ≤ T p ∧ T p ≤ 57
  · rw [if_pos c, if_neg (show ¬ nI 1 = 0 by decide)]
    have hdig : ∃ v σ', f_X12_digits (99999 : Int32) σ1 = some (v, σ') ∧ FR σ1 σ' ∧ FltM T len f σ' := by
      unfold f_X12_digits b_X12_digits_0
      rw [m_dig tm hl hT (by omega) e30, bnd, if_pos c, if_neg (show ¬ nI 1 = 0 by decide)]
      exact m_digF_loop hl hT hf hf2 len p FU _ _ _ σ1 (by omega) (by omega) (by unfold FU; omega) tm e30 e31
    obtain ⟨v, σ2, b1, b2, b3⟩ := hdig
    rw [b1, bnd]
    show ∃ σ', (f_X12_isCounted (sI σ1 0 30) σ2).bind _ = some σ' ∧ _
    obtain ⟨σ3, d1, d2, d3⟩ := m_countF (r := r) hf hf2 b3.2.2 (sI σ1 0 30)
    have b4 := b3.fw d2 (d3 30 (by decide)) (d3 31 (by decide))
    rw [d1, bnd, m_entryF hf hf2 b4.2.2, bnd]
    exact ⟨σ3, rfl, (a2.f2 r).trans ((b2.f2 r).trans d2), b4⟩
  · rw [if_neg c, if_pos (show nI 0 = 0 from rfl)]
    obtain ⟨σ2, b1, b2, b3⟩ := m_wordsF (r := r) hl hT hf hf2 12 0 FU (sI σ1 0 30) σ1 rfl (by unfold FU; omega) ⟨tm, ⟨p, hp, e30⟩, e31⟩ g38
    exact ⟨σ2, b1, (a2.f2 r).trans b2, b3⟩
end VF
