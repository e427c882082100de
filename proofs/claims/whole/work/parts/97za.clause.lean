/-! ===== pure: a clause of a rule, both ===== -/
section CL
variable {len : Nat} {T : Nat → Nat}
theorem rc_54 {k k' : Int32 → MS → Option MS} {y : Int32} (h : ∀ s, k (y + 1) s = k' (y + 1) s) (σ : MS) : b_X7_readClause_54 k y σ = b_X7_readClause_54 k' y σ := by
  have h133 : ∀ s, b_X7_readClause_133 k y s = b_X7_readClause_133 k' y s := fun s => by
    unfold b_X7_readClause_133; exact h s
  have h79 : ∀ s, b_X7_readClause_79 k y s = b_X7_readClause_79 k' y s := fun s => by
    unfold b_X7_readClause_79
    simp only [h133]
  unfold b_X7_readClause_54
  simp only [h79]
theorem rc_fuel : ∀ (j y n m : Nat) (σ : MS), y + j = 401 → j < n → j < m → b_X7_readClause_2 n (nI y) σ = b_X7_readClause_2 m (nI y) σ
  | j, y, n + 1, m + 1, σ, hj, hn, hm => by
    unfold b_X7_readClause_2
    cases j with
    | zero =>
      have c : (400 : Int32) < nI y := by rw [show (400 : Int32) = nI 400 from rfl, nI_ltI (by decide) (by omega)]; omega
      rw [if_pos c, if_pos c]
    | succ j =>
      have ih : ∀ s, b_X7_readClause_2 n (nI y + 1) s = b_X7_readClause_2 m (nI y + 1) s := fun s => by
        rw [nl_add]; exact rc_fuel j (y + 1) n m s (by omega) (by omega) (by omega)
      simp only [rc_54 ih]
  | _, _, 0, _, _, _, hn, _ => absurd hn (Nat.not_lt_zero _)
  | _, _, _ + 1, 0, _, _, _, hm => absurd hm (Nat.not_lt_zero _)
theorem Rn.fin {y y' : Nat} {σ σ' : MS} (h : Rn y σ y' σ') (hy : y ≤ 401) (hs : sI σ' 17 3 = 4 ∨ ¬ sI σ' 20 6 = 0) : b_X7_readClause_2 FU (nI y) σ = some σ' := by
  rw [rc_fuel (401 - y) y FU (402 + (y' - y)) σ (by omega) (by unfold FU; omega) (by omega), h.2 402]
  show (if (400 : Int32) < nI y' then (b_X7_readClause_139 σ') else (if (sI σ' 17 3) = (4 : Int32) then (b_X7_readClause_139 σ') else (if (sI σ' 20 6) = 0 then _ else (b_X7_readClause_139 σ')))) = _
  by_cases c : (400 : Int32) < nI y'
  · rw [if_pos c]; rfl
  · rw [if_neg c]
    rcases hs with h | h
    · rw [if_pos h]; rfl
    · rw [if_neg h]
      split <;> rfl
def FK (r k : Nat) (σ σ' : MS) : Prop := Sm σ σ' ∧ (∀ b, b ≠ 0 → b ≠ 29 → b ≠ 30 → b ≠ 32 → b ≠ 33 → b ≠ 34 → b ≠ 35 → sI σ' b = sI σ b) ∧ (∀ j, j < 30 ∨ j = 32 ∨ j = 33 ∨ 37 < j → sI σ' 0 j = sI σ 0 j) ∧ (∀ i, i < 300 * r → sI σ' 29 i = sI σ 29 i ∧ sI σ' 30 i = sI σ 30 i) ∧ (∀ i, i ≠ 12 * r + k → sI σ' 32 i = sI σ 32 i ∧ sI σ' 33 i = sI σ 33 i ∧ sI σ' 34 i = sI σ 34 i)
theorem FK.trans {r k : Nat} {σ σ' σ'' : MS} (h : FK r k σ σ') (g : FK r k σ' σ'') : FK r k σ σ'' := ⟨h.1.trans g.1, fun b h1 h2 h3 h4 h5 h6 h7 => (g.2.1 b h1 h2 h3 h4 h5 h6 h7).trans (h.2.1 b h1 h2 h3 h4 h5 h6 h7), fun j hj => (g.2.2.1 j hj).trans (h.2.2.1 j hj), fun i hi => ⟨(g.2.2.2.1 i hi).1.trans (h.2.2.2.1 i hi).1, (g.2.2.2.1 i hi).2.trans (h.2.2.2.1 i hi).2⟩, fun i hi => ⟨(g.2.2.2.2 i hi).1.trans (h.2.2.2.2 i hi).1, (g.2.2.2.2 i hi).2.1.trans (h.2.2.2.2 i hi).2.1, (g.2.2.2.2 i hi).2.2.trans (h.2.2.2.2 i hi).2.2⟩⟩
theorem FQ.fk {r : Nat} {σ σ' : MS} (k : Nat) (h : FQ r σ σ') : FK r k σ σ' := ⟨h.1, fun b h1 h2 h3 _ _ _ h7 => h.2.1 b h1 h2 h3 h7, h.2.2.1, h.2.2.2, fun i _ => ⟨by rw [h.2.1 32 (by decide) (by decide) (by decide) (by decide)], by rw [h.2.1 33 (by decide) (by decide) (by decide) (by decide)], by rw [h.2.1 34 (by decide) (by decide) (by decide) (by decide)]⟩⟩
theorem FK.w (r k : Nat) (σ : MS) {a : Nat} (x : Int32) (ha : 32 ≤ a ∧ a ≤ 34) : FK r k σ (wI σ a (12 * r + k) x) := ⟨⟨rfl, rfl, rfl⟩, fun b h1 h2 h3 h4 h5 h6 h7 => sI_wIn _ _ _ _ (by omega), fun j _ => by rw [sI_wIn _ _ _ _ (by omega)], fun i _ => ⟨by rw [sI_wIn _ _ _ _ (by omega)], by rw [sI_wIn _ _ _ _ (by omega)]⟩, fun i hi => by
  refine ⟨?_, ?_, ?_⟩
  all_goals
    rw [sI_wI, if_neg hi, ite_self]⟩
theorem EM.w3 {σ : MS} {r v a i : Nat} {es : List Ent} (h : EM σ r es v) (x : Int32) (ha : 32 ≤ a ∧ a ≤ 34) : EM (wI σ a i x) r es v := by
  obtain ⟨z1, z2, z3, z4, z5⟩ := h
  have e0 : sI (wI σ a i x) 0 = sI σ 0 := sI_wIn _ _ _ _ (by omega)
  exact ⟨by rw [e0]; exact z1, by rw [e0]; exact z2, fun j hj => by rw [sI_wIn _ _ _ _ (by omega), sI_wIn _ _ _ _ (by omega)]; exact z3 j hj, by rw [e0]; exact z4, by rw [e0]; exact z5⟩
theorem TM.w3 {σ : MS} {a i : Nat} (h : TM len T σ) (x : Int32) (ha : 32 ≤ a ∧ a ≤ 34) : TM len T (wI σ a i x) := ⟨by rw [sI_wIn _ _ _ _ (by omega)]; exact h.1, by rw [sI_wIn _ _ _ _ (by omega)]; exact h.2⟩
theorem FltM.w3 {σ : MS} {f a i : Nat} (h : FltM T len f σ) (x : Int32) (ha : 32 ≤ a ∧ a ≤ 34) : FltM T len f (wI σ a i x) := by
  have e0 : sI (wI σ a i x) 0 = sI σ 0 := sI_wIn _ _ _ _ (by omega)
  obtain ⟨h1, ⟨p, h2, h3⟩, h4⟩ := h
  exact ⟨h1.w3 x ha, ⟨p, h2, by rw [e0]; exact h3⟩, by rw [e0]; exact h4⟩
theorem Fl0.w3 {σx σ : MS} {a i : Nat} (h : Fl0 T len σx σ) (x : Int32) (ha : 32 ≤ a ∧ a ≤ 34) : Fl0 T len σx (wI σ a i x) := by
  have e0 : sI (wI σ a i x) 0 = sI σ 0 := sI_wIn _ _ _ _ (by omega)
  obtain ⟨q, h1, h2, h3, h4, h5, h6, h7⟩ := h
  exact ⟨q, h1, h2, h3, h4, h5.w3 x ha, by rw [e0]; exact h6, by rw [e0]; exact h7⟩
/-- both have read clause k -/
def COk (T : Nat → Nat) (len r k : Nat) (cs es : List Ent) (σx σm : MS) : Prop := ∃ q v N A B, TX len T σx ∧ TM len T σm ∧ q ≤ len ∧ sI σm 0 30 = nI q ∧ skB T len q = q ∧ sI σm 0 31 = 0 ∧ sI σx 20 6 = 0 ∧ TokX 20 T len q σx ∧ (q = len ∨ (q < len ∧ T q = 59)) ∧ 3 * N ≤ q ∧ v ≤ 60 ∧ k < 12 ∧ sI σx 17 6 = nI v ∧ Cod σx (cs ++ cod1 (A, B)) ∧ EM σm r (es ++ (A ++ B)) v ∧ sI σm 0 35 = 0 ∧ tys 50 A [] = some [false] ∧ (B = [] ∨ tys 50 B [] = some [true]) ∧ es.length + (A ++ B).length ≤ 2 * v + N ∧ sI σm 32 (12 * r + k) = nI es.length ∧ sI σm 33 (12 * r + k) = nI (es.length + A.length) ∧ sI σm 34 (12 * r + k) = nI (es.length + A.length + B.length)
theorem mt_if {q : Nat} (hq : q ≤ len) (h : mtN T len q 19 = 1) : q < len ∧ T q = 105 := by
  have hc := mt_chr (by decide) h
  rw [chr_5.2.1] at hc
  refine ⟨?_, hc⟩
  have hs : skL T len q - q = slen.getD 19 0 := by
    unfold mtN at h
    split at h
    · rename_i hh; exact hh.1
    · cases h
  have hpos := (slen_lt 19 (by decide)).2
  have hle := skL_le T hq
  omega
theorem m_takeN (hl : len ≤ 400) (hT : ∀ i, i < len → T i < 256) {q : Nat} {σ : MS} (tm : TM len T σ) (hq : q ≤ len) (e30 : sI σ 0 30 = nI q) (hsk : skB T len q = q) : ∃ σ', f_X12_takes 19 σ = some (nI (mtN T len q 19), σ') ∧ FR σ σ' ∧ sI σ' 0 31 = sI σ 0 31 ∧ sI σ' 0 30 = nI (if mtN T len q 19 = 1 then q + 2 else q) := by
  obtain ⟨σ2, b1, b2, b3, b4⟩ := m_blanks hl hT (p := q) (by omega) tm e30
  rw [hsk] at b4
  have hst := m_stood (k := 19) hl hT (by decide) (tm.fr b2) (by omega) b4
  have h01 := mtN_01 T len q 19
  unfold f_X12_takes b_X12_takes_0 b_X12_takes_27
  rw [b1, bnd, hst, bnd, b4]
  by_cases c : mtN T len q 19 = 1
  · rw [c, if_neg (show ¬ nI 1 = 0 by decide), len_ok 19 (by decide), bnd, chk_t (show nI 1 = 0 ∨ nI 1 = 1 from Or.inr rfl), nI_add]
    exact ⟨_, rfl, b2.trans (FR.w30 _ _), by rw [sI_wIk _ _ _ _ (by decide)]; exact b3, by rw [sI_wIs]; rfl⟩
  · rw [show mtN T len q 19 = 0 by omega, if_pos (show nI 0 = 0 from rfl), chk_t (show nI 0 = 0 ∨ nI 0 = 1 from Or.inl rfl), show (0 : Int32) = nI 0 from rfl, nI_add]
    exact ⟨_, rfl, b2.trans (FR.w30 _ _), by rw [sI_wIk _ _ _ _ (by decide)]; exact b3, by rw [sI_wIs]; rfl⟩
end CL
