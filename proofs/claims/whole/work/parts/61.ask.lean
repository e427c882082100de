/-! ===== pure: how things stand ===== -/
section
/-- both answer, and alike -/
def Tw {α : Type} (A B : Option α) : Prop := ∃ r, A = some r ∧ B = some r
theorem tw {α : Type} (r : α) {A B : Option α} (h1 : A = some r) (h2 : B = some r) : Tw A B := ⟨r, h1, h2⟩
theorem one_ne : ¬ (1 : Int32) = 0 := by decide
theorem sw {α : Type} {c : Prop} {d d' : Decidable c} {A A' B B' : Option α} (h1 : c → Tw A A') (h2 : ¬ c → Tw B B') : Tw (@ite _ c d A B) (@ite _ c d' A' B') := by
  by_cases h : c
  · rw [if_pos h, if_pos h]; exact h1 h
  · rw [if_neg h, if_neg h]; exact h2 h
/-! ranges -/
theorem rng (x : Int32) {lo hi : Nat} (hl : lo < 2 ^ 31) (h : hi < 2 ^ 31) : x < nI lo ∨ nI hi < x ∨ ∃ j, lo ≤ j ∧ j ≤ hi ∧ x = nI j := by
  by_cases h1 : x < nI lo
  · exact Or.inl h1
  · by_cases h2 : nI hi < x
    · exact Or.inr (Or.inl h2)
    · refine Or.inr (Or.inr ?_)
      have h0 : ¬ x < 0 := fun h0 => by
        rw [Int32.lt_iff_toInt_lt] at h0
        rw [Int32.lt_iff_toInt_lt, nI_toInt hl] at h1
        have h3 : (0 : Int32).toInt = 0 := by decide
        omega
      obtain ⟨j, hj, rfl⟩ := nI_of h0
      rw [nI_ltI h hj] at h2
      rw [nI_ltI hj hl] at h1
      exact ⟨j, by omega, by omega, rfl⟩
theorem m_in_gen (x y z : Int32) : f_X12_in x.toInt64 y.toInt64 z.toInt64 = some (if x < y ∨ z < x then 0 else 1) := by
  unfold f_X12_in b_X12_in_0 b_X12_in_17 b_X12_in_18
  have e1 : (lg_cmp x.toInt64 y.toInt64 < 0) ↔ x < y := (lg_cmp_lt _ _).trans Int32.toInt64_lt
  have e2 : (0 < lg_cmp x.toInt64 z.toInt64) ↔ z < x := (lg_cmp_gt _ _).trans Int32.toInt64_lt
  by_cases h1 : x < y
  · rw [if_pos (e1.mpr h1), if_pos (Or.inl h1)]; rfl
  · rw [if_neg (fun q => h1 (e1.mp q))]
    by_cases h2 : z < x
    · rw [if_pos (e2.mpr h2), if_pos (Or.inr h2)]; rfl
    · rw [if_neg (fun q => h2 (e2.mp q)), if_neg (fun q => q.elim h1 h2)]; rfl
/-- in a range of literals: low, high, within -/
theorem m_in (x : Int32) {l h : Int64} (lo hi : Nat) (hl : lo < 2 ^ 31) (hh : hi < 2 ^ 31) (el : l = (nI lo).toInt64) (eh : h = (nI hi).toInt64) : ((x < nI lo ∨ nI hi < x) ∧ f_X12_in x.toInt64 l h = some 0) ∨ ∃ j, lo ≤ j ∧ j ≤ hi ∧ x = nI j ∧ f_X12_in x.toInt64 l h = some 1 := by
  subst el eh
  rcases rng x hl hh with h1 | h1 | ⟨j, h1, h2, rfl⟩
  · exact Or.inl ⟨Or.inl h1, by rw [m_in_gen, if_pos (Or.inl h1)]⟩
  · exact Or.inl ⟨Or.inr h1, by rw [m_in_gen, if_pos (Or.inr h1)]⟩
  · refine Or.inr ⟨j, h1, h2, rfl, ?_⟩
    rw [m_in_gen, if_neg (fun q => ?_)]
    rw [nI_ltI (by omega) hl, nI_ltI hh (by omega)] at q
    omega
theorem m_isX {x c : Int32} {n : Nat} (hc : c = nI n) (hn : n < 2 ^ 31) : (∃ j, j < n ∧ x = nI j ∧ f_X12_in x.toInt64 0 (c - 1).toInt64 = some 1) ∨ ((x < 0 ∨ nI n ≤ x) ∧ f_X12_in x.toInt64 0 (c - 1).toInt64 = some 0) := by
  subst hc
  have e0 : (0 : Int64) = (0 : Int32).toInt64 := by decide
  have e1 : (nI n - 1).toInt = (n : Int) - 1 := by
    rw [Int32.toInt_sub, nI_toInt hn, show (1 : Int32).toInt = 1 from by decide]
    exact Int.bmod_eq_of_le (by omega) (by omega)
  rw [e0, m_in_gen]
  rcases pk_ix x hn with h | h | ⟨j, h, rfl⟩
  · exact Or.inr ⟨Or.inl h, by rw [if_pos (Or.inl h)]⟩
  · refine Or.inr ⟨Or.inr h, ?_⟩
    rw [if_pos (Or.inr ?_)]
    rw [Int32.le_iff_toInt_le, nI_toInt hn] at h
    rw [Int32.lt_iff_toInt_lt, e1]
    omega
  · refine Or.inl ⟨j, h, rfl, ?_⟩
    rw [if_neg (fun q => ?_)]
    rw [Int32.lt_iff_toInt_lt, Int32.lt_iff_toInt_lt, e1, nI_toInt (by omega), show (0 : Int32).toInt = 0 from by decide] at q
    omega
theorem w_isKind {σx σm : MS} {n : Nat} (hx : sI σx 23 2 = nI n) (hm : sI σm 1 2 = nI n) (hn : n < 2 ^ 31) (x : Int32) : (∃ j, j < n ∧ x = nI j ∧ f_X11_isKind x σx = some 1 ∧ f_X12_isKind x σm = some 1) ∨ (f_X11_isKind x σx = some 0 ∧ f_X12_isKind x σm = some 0) := by
  unfold f_X11_isKind b_X11_isKind_0 b_X11_isKind_22 b_X11_isKind_23 f_X12_isKind b_X12_isKind_0
  rcases m_isX (x := x) hm hn with ⟨j, h1, rfl, h2⟩ | ⟨h1, h2⟩
  · refine Or.inl ⟨j, h1, rfl, ?_, ?_⟩
    · rw [if_neg (nI_pos (by omega)), hx, q_le hn (by omega), if_neg (by omega)]; rfl
    · rw [h2]; rfl
  · refine Or.inr ⟨?_, ?_⟩
    · rcases h1 with h1 | h1
      · rw [if_pos h1]; rfl
      · by_cases h0 : x < 0
        · rw [if_pos h0]; rfl
        · rw [if_neg h0, hx, if_pos h1]; rfl
    · rw [h2]; rfl
theorem w_isPerson {σx σm : MS} {n : Nat} (hx : sI σx 23 3 = nI n) (hm : sI σm 1 3 = nI n) (hn : n < 2 ^ 31) (x : Int32) : (∃ j, j < n ∧ x = nI j ∧ f_X11_isPerson x σx = some 1 ∧ f_X12_isPerson x σm = some 1) ∨ (f_X11_isPerson x σx = some 0 ∧ f_X12_isPerson x σm = some 0) := by
  unfold f_X11_isPerson b_X11_isPerson_0 b_X11_isPerson_22 b_X11_isPerson_23 f_X12_isPerson b_X12_isPerson_0
  rcases m_isX (x := x) hm hn with ⟨j, h1, rfl, h2⟩ | ⟨h1, h2⟩
  · refine Or.inl ⟨j, h1, rfl, ?_, ?_⟩
    · rw [if_neg (nI_pos (by omega)), hx, q_le hn (by omega), if_neg (by omega)]; rfl
    · rw [h2]; rfl
  · refine Or.inr ⟨?_, ?_⟩
    · rcases h1 with h1 | h1
      · rw [if_pos h1]; rfl
      · by_cases h0 : x < 0
        · rw [if_pos h0]; rfl
        · rw [if_neg h0, hx, if_pos h1]; rfl
    · rw [h2]; rfl
theorem w_isWork {σx σm : MS} {n : Nat} (hx : sI σx 23 4 = nI n) (hm : sI σm 1 4 = nI n) (hn : n < 2 ^ 31) (x : Int32) : (∃ j, j < n ∧ x = nI j ∧ f_X11_isWork x σx = some 1 ∧ f_X12_isWork x σm = some 1) ∨ (f_X11_isWork x σx = some 0 ∧ f_X12_isWork x σm = some 0) := by
  unfold f_X11_isWork b_X11_isWork_0 b_X11_isWork_22 b_X11_isWork_23 f_X12_isWork b_X12_isWork_0
  rcases m_isX (x := x) hm hn with ⟨j, h1, rfl, h2⟩ | ⟨h1, h2⟩
  · refine Or.inl ⟨j, h1, rfl, ?_, ?_⟩
    · rw [if_neg (nI_pos (by omega)), hx, q_le hn (by omega), if_neg (by omega)]; rfl
    · rw [h2]; rfl
  · refine Or.inr ⟨?_, ?_⟩
    · rcases h1 with h1 | h1
      · rw [if_pos h1]; rfl
      · by_cases h0 : x < 0
        · rw [if_pos h0]; rfl
        · rw [if_neg h0, hx, if_pos h1]; rfl
    · rw [h2]; rfl
/-- the class's world -/
def VX (σ : MS) (W : Wd) : Prop :=
  (sI σ 23 0 = nI (wc W 0) ∧ LX 23 σ (wc W 1) (wc W 2) (wc W 3) (wL W)) ∧ SX 31 σ (wB W) ∧ SX 35 σ (wS W) ∧
  (sI σ 22 9 = hI (wc W 4) ∧ sI σ 22 10 = nI (wc W 5) ∧ sI σ 22 8 = nI (wc W 6) ∧ sI σ 22 4 = nI (wc W 7)) ∧
  (∀ i, i < wc W 6 → sI σ 40 i = nI (wG W 0 i) ∧ sI σ 41 i = nI (wG W 1 i) ∧ sI σ 42 i = hI (wG W 2 i))
theorem XW.v {ow : Nat → Nat} {v : Nat} {σ : MS} {W : Wd} (h : XW ow v 22 σ W) : VX σ W := ⟨h.1, h.2.1, h.2.2.1, h.2.2.2.1, h.2.2.2.2.1⟩
section QQ
variable {σx σm : MS} {W : Wd}
theorem aw_x {P t : Nat} {L : Row2} {σ : MS} (h3 : sI σ 23 3 = nI P) (hP : P ≤ 4) (hL : ∀ p, p < P → sI σ 26 p = nI (L 2 p) ∧ sI σ 27 p = nI (L 3 p) ∧ L 2 p ≤ 23 ∧ L 3 p ≤ 24) (ht : t ≤ 5000) : ∀ (j k n : Nat), k + j = P → j < n → b_X3_awakeAt_4 n (nI t) (nI (msk (fun p => decide (asl (L 2 p) (L 3 p) t = 0)) k)) (nI k) σ = some (nI (msk (fun p => decide (asl (L 2 p) (L 3 p) t = 0)) P))
  | 0, k, n + 1, hk, _ => by
    unfold b_X3_awakeAt_4
    rw [h3, q_le (by omega) (by omega), if_pos (by omega), show k = P by omega]
  | j + 1, k, n + 1, hk, hn => by
    have ih := aw_x h3 hP hL ht j (k + 1) n (by omega) (by omega)
    rw [msk_s] at ih
    obtain ⟨q1, q2, q3, q4⟩ := hL k (by omega)
    have h01 := asl_01 (L 2 k) (L 3 k) t
    unfold b_X3_awakeAt_4 b_X3_awakeAt_27
    rw [h3, q_le (by omega) (by omega), if_neg (by omega), x_asleep (by omega) q1 q2 q3 q4 ht, bnd, q_zero (by omega), nI_1]
    by_cases e : asl (L 2 k) (L 3 k) t = 0
    · rw [if_pos (by simp [e])] at ih
      rw [if_pos e, b_or k (by omega) _ (msk_lt _ k), ih]
    · rw [if_neg (by simp [e]), Nat.add_zero] at ih
      rw [if_neg e, ih]
  | _, _, 0, _, hn => absurd hn (Nat.not_lt_zero _)
theorem aw_m {P t : Nat} {L : Row2} {σ : MS} (h3 : sI σ 1 3 = nI P) (hP : P ≤ 4) (hL : ∀ p, p < P → sI σ 5 p = nI (L 2 p) ∧ sI σ 6 p = nI (L 3 p) ∧ L 2 p ≤ 23 ∧ L 3 p ≤ 24) (ht : t ≤ 5000) : ∀ (j k n : Nat), k + j = P → j < n → b_X12_awakeAt_4 n (nI t) (nI (msk (fun p => decide (asl (L 2 p) (L 3 p) t = 0)) k)) (nI k) σ = some (nI (msk (fun p => decide (asl (L 2 p) (L 3 p) t = 0)) P))
  | 0, k, n + 1, hk, _ => by
    unfold b_X12_awakeAt_4
    rw [h3, q_le (by omega) (by omega), if_pos (by omega), show k = P by omega]
  | j + 1, k, n + 1, hk, hn => by
    have ih := aw_m h3 hP hL ht j (k + 1) n (by omega) (by omega)
    rw [msk_s] at ih
    obtain ⟨q1, q2, q3, q4⟩ := hL k (by omega)
    have h01 := asl_01 (L 2 k) (L 3 k) t
    unfold b_X12_awakeAt_4 b_X12_awakeAt_31
    rw [h3, q_le (by omega) (by omega), if_neg (by omega), m_asleep (by omega) q1 q2 q3 q4 ht, bnd, q_zero (by omega), nI_1]
    by_cases e : asl (L 2 k) (L 3 k) t = 0
    · rw [if_pos (by simp [e])] at ih
      rw [if_pos e, b_or k (by omega) _ (msk_lt _ k), ih]
    · rw [if_neg (by simp [e]), Nat.add_zero] at ih
      rw [if_neg e, n_or0, ih]
  | _, _, 0, _, hn => absurd hn (Nat.not_lt_zero _)
/-- who is awake -/
def awM (W : Wd) (t : Nat) : Nat := msk (fun p => decide (asl (wL W 2 p) (wL W 3 p) t = 0)) (wc W 2)
theorem x_awakeAt (hx : VX σx W) (hW : WW W) {t : Nat} (ht : t ≤ 5000) : f_X3_awakeAt (nI t) σx = some (nI (awM W t)) := by
  have hF := FU_big
  have hP := hW.2.1.1.1.2.1
  exact aw_x (L := wL W) hx.1.2.1.2.1 hP (fun p hp => ⟨(hx.1.2.2.2.1 p hp).1, (hx.1.2.2.2.1 p hp).2.1, (hW.2.1.1.2.2.1 p hp).1, (hW.2.1.1.2.2.1 p hp).2.1⟩) ht (wc W 2) 0 FU (by omega) (by omega)
theorem m_awakeAt (hm : MW σm W) (hW : WW W) {t : Nat} (ht : t ≤ 5000) : f_X12_awakeAt (nI t) σm = some (nI (awM W t)) := by
  have hF := FU_big
  have hP := hW.2.1.1.1.2.1
  exact aw_m (L := wL W) hm.1.2.1.2.1 hP (fun p hp => ⟨(hm.1.2.2.2.1 p hp).1, (hm.1.2.2.2.1 p hp).2.1, (hW.2.1.1.2.2.1 p hp).1, (hW.2.1.1.2.2.1 p hp).2.1⟩) ht (wc W 2) 0 FU (by omega) (by omega)
theorem q_kind (hx : VX σx W) (hm : MW σm W) (hW : WW W) (x y : Int32) : Tw (f_X11_kind x y σx) (f_X12_kind x y σm) := by
  obtain ⟨⟨hK5, hP4, hN6, hf⟩, hW2, hW3, hW4⟩ := hW.2.1.1
  unfold f_X11_kind b_X11_kind_0 f_X12_kind b_X12_kind_0 b_X12_kind_18 b_X12_kind_41
  rcases w_isKind hx.1.2.1.1 hm.1.2.1.1 (by omega) x with ⟨j, h1, rfl, h2, h3⟩ | ⟨h2, h3⟩
  · rw [h2, h3, bnd, bnd, if_neg one_ne, if_neg one_ne, chk_t (in_n (show j < 5 by omega) (by decide)), chk_t (in_n (show j < 5 by omega) (by decide)), chk_t (in_n (show j < 5 by omega) (by decide)), chk_t (in_n (show j < 5 by omega) (by decide)), ix_n (by omega), show sI σx 24 j = nI (wL W 0 j) from (hx.1.2.2.1 j h1).1, show sI σx 25 j = nI (wL W 1 j) from (hx.1.2.2.1 j h1).2, (hm.1.2.2.1 j h1).1, (hm.1.2.2.1 j h1).2]
    rcases m_in y (l := 0) (h := 1) 0 1 (by decide) (by decide) (by decide) (by decide) with ⟨g, h⟩ | ⟨i, g1, g2, rfl, h⟩
    · refine tw (-1) ?_ ?_
      · have n0 : ¬ y = 0 := fun e => by subst e; exact absurd g (by decide)
        have n1 : ¬ y = 1 := fun e => by subst e; exact absurd g (by decide)
        rw [if_neg n0, if_neg n1]
      · rw [h, bnd, if_pos rfl]
    · rw [h, bnd, if_neg one_ne]
      rcases (by omega : i = 0 ∨ i = 1) with rfl | rfl
      · exact tw _ (if_pos (show nI 0 = 0 from rfl)) (if_pos (show nI 0 = 0 from rfl))
      · refine tw (nI (wL W 1 j)) ?_ ?_
        · rw [if_neg (show ¬ nI 1 = 0 by decide), if_pos (show nI 1 = 1 from rfl)]
        · rw [if_neg (show ¬ nI 1 = 0 by decide)]
  · rw [h2, h3]; exact tw (-1) rfl rfl
theorem q_person (hx : VX σx W) (hm : MW σm W) (hW : WW W) (x y : Int32) : Tw (f_X11_person x y σx) (f_X12_person x y σm) := by
  have hW0 := hW
  obtain ⟨⟨hK5, hP4, hN6, hf⟩, hW2, hW3, hW4⟩ := hW.2.1.1
  have hV := hW.2.2.1.1
  have h999 := hW.2.2.1.2
  unfold f_X11_person b_X11_person_0 b_X11_person_115 f_X12_person b_X12_person_0 b_X12_person_101
  rcases w_isPerson hx.1.2.1.2.1 hm.1.2.1.2.1 (by omega) x with ⟨j, h1, rfl, h2, h3⟩ | ⟨h2, h3⟩
  · have a1 := hx.1.2.2.2.1 j h1
    have a2 := hm.1.2.2.2.1 j h1
    have e38 : sI σx 38 j = nI (wS W 2 j) := hx.2.2.1.2.1 j (by omega)
    have e35 : sI σx 35 5 = nI (wS W 3 5) := hx.2.2.1.2.2.2.2
    have em5 : sI σm 1 5 = nI (wS W 3 5) := hm.2.1.2.2.2.2
    have ea : f_X3_isAsleep (nI j) (nI (wS W 3 5)) σx = some (nI (asl (wL W 2 j) (wL W 3 j) (wS W 3 5))) := x_asleep (by omega) a1.1 a1.2.1 (hW3 j h1).1 (hW3 j h1).2.1 (by omega)
    have eam : f_X12_isAsleep (nI j) (nI (wS W 3 5)) σm = some (nI (asl (wL W 2 j) (wL W 3 j) (wS W 3 5))) := m_asleep (by omega) a2.1 a2.2.1 (hW3 j h1).1 (hW3 j h1).2.1 (by omega)
    have bj : inb (nI j) 4 := in_n (by omega) (by decide)
    rw [h2, h3, bnd, bnd, if_neg one_ne, if_neg one_ne, ix_n (by omega)]
    refine sw (fun _ => ?_) (fun _ => sw (fun _ => ?_) (fun _ => sw (fun _ => ?_) (fun _ => sw (fun _ => ?_) (fun _ => sw (fun _ => ?_) (fun _ => sw (fun _ => ?_) (fun _ => tw (-1) rfl rfl))))))
    · rw [chk_t bj, chk_t bj, e38, hm.2.1.2.1 j h1]; exact tw _ rfl rfl
    · rw [chk_t bj, chk_t bj, show sI σx 26 j = nI (wL W 2 j) from a1.1, a2.1]; exact tw _ rfl rfl
    · rw [chk_t bj, chk_t bj, show sI σx 27 j = nI (wL W 3 j) from a1.2.1, a2.2.1]; exact tw _ rfl rfl
    · rw [chk_t bj, chk_t bj, show sI σx 28 j = nI (wL W 4 j) from a1.2.2, a2.2.2]; exact tw _ rfl rfl
    · rw [x_heldBy hx.2.2.1 (hV.hs hP4) (by omega), m_heldBy hm.2.1 hm.1.2.1.2.2.1 hN6 (hV.hs hP4) (by omega), (hV.hb6 hN6 j).1]
      exact tw _ rfl rfl
    · unfold f_X11_isAwake b_X11_isAwake_0 b_X11_isAwake_36 b_X11_isAwake_37
      rw [h2, bnd, if_neg one_ne, e35, em5, ea, eam, bnd, bnd]
      rcases asl_01 (wL W 2 j) (wL W 3 j) (wS W 3 5) with h | h
      · rw [h]; exact tw 1 rfl rfl
      · rw [h]; exact tw 0 rfl rfl
  · rw [h2, h3]; exact tw (-1) rfl rfl
theorem q_work (hx : VX σx W) (hm : MW σm W) (hW : WW W) (x y : Int32) : Tw (f_X11_work x y σx) (f_X12_work x y σm) := by
  obtain ⟨⟨hK5, hP4, hN6, hf⟩, hW2, hW3, hW4⟩ := hW.2.1.1
  have hV := hW.2.2.1.1
  unfold f_X11_work b_X11_work_0 f_X12_work b_X12_work_0 b_X12_work_81
  rcases w_isWork hx.1.2.1.2.2.1 hm.1.2.1.2.2.1 (by omega) x with ⟨j, h1, rfl, h2, h3⟩ | ⟨h2, h3⟩
  · have a1 := hx.1.2.2.2.2 j h1
    have a2 := hm.1.2.2.2.2 j h1
    have bj : inb (nI j) 6 := in_n (by omega) (by decide)
    have ebit : f_X8_sneakedBit 35 (nI j) σx = some (nI (bt (wS W 3 3) j)) := by
      unfold f_X8_sneakedBit b_X8_sneakedBit_0
      rw [hx.2.2.1.2.2.1, b_get _ hV.2.2.1.1 j (by omega)]
    have hb := bt_lt (wS W 3 3) j
    rw [h2, h3, bnd, bnd, if_neg one_ne, if_neg one_ne, ix_n (by omega)]
    refine sw (fun _ => ?_) (fun _ => sw (fun _ => ?_) (fun _ => sw (fun _ => ?_) (fun _ => sw (fun _ => ?_) (fun _ => sw (fun _ => ?_) (fun _ => tw (-2) rfl rfl)))))
    · rw [chk_t bj, chk_t bj, show sI σx 29 j = nI (wL W 5 j) from a1.1, a2.1]; exact tw _ rfl rfl
    · rw [chk_t bj, chk_t bj, show sI σx 36 j = hI (wS W 0 j) from (hx.2.2.1.1 j (by omega)).1, (hm.2.1.1 j h1).1]; exact tw _ rfl rfl
    · rw [ebit, hm.2.1.2.2.1, m_has hV.2.2.1.1 (by omega), bnd, bnd]
      rcases (by omega : bt (wS W 3 3) j = 0 ∨ bt (wS W 3 3) j = 1) with h | h
      · rw [h]; exact tw 0 rfl rfl
      · rw [h]; exact tw 1 rfl rfl
    · rw [chk_t bj, chk_t bj, show sI σx 37 j = nI (wS W 1 j) from (hx.2.2.1.1 j (by omega)).2, (hm.2.1.1 j h1).2]; exact tw _ rfl rfl
    · rw [chk_t bj, chk_t bj, show sI σx 30 j = nI (wL W 6 j) from a1.2, a2.2]; exact tw _ rfl rfl
  · rw [h2, h3]; exact tw (-2) rfl rfl
theorem q_count (hx : VX σx W) (hm : MW σm W) (hW : WW W) {n len : Nat} (hr : sI σx 0 11 = nI n) (hrm : sI σm 0 33 = nI n) (hl : sI σx 1 1 = nI len) (hlm : sI σm 0 29 = nI len) (x : Int32) : Tw (f_X11_count x σx) (f_X12_count x σm) := by
  obtain ⟨⟨hK5, hP4, hN6, hf⟩, hW2, hW3, hW4⟩ := hW.2.1.1
  have hV := hW.2.2.1.1
  have h999 := hW.2.2.1.2
  have e35 : sI σx 35 5 = nI (wS W 3 5) := hx.2.2.1.2.2.2.2
  have em5 : sI σm 1 5 = nI (wS W 3 5) := hm.2.1.2.2.2.2
  unfold f_X11_count b_X11_count_0 f_X12_count b_X12_count_0
  refine sw (fun _ => ?_) (fun _ => sw (fun _ => ?_) (fun _ => sw (fun _ => ?_) (fun _ => sw (fun _ => ?_) (fun _ => sw (fun _ => ?_) (fun _ => sw (fun _ => ?_) (fun _ => sw (fun _ => ?_) (fun _ => sw (fun _ => ?_) (fun _ => sw (fun _ => ?_) (fun _ => sw (fun _ => ?_) (fun _ => sw (fun _ => ?_) (fun _ => sw (fun _ => ?_) (fun _ => sw (fun _ => ?_) (fun _ => sw (fun _ => ?_) (fun _ => sw (fun _ => ?_) (fun _ => tw (-1) rfl rfl)))))))))))))))
  · rw [hx.1.2.1.2.2.2, hm.1.2.1.2.2.2]; exact tw _ rfl rfl
  · rw [hx.2.2.1.2.2.2.1, hm.2.1.2.2.2.1]; exact tw _ rfl rfl
  · rw [hx.1.2.1.1, hm.1.2.1.1]; exact tw _ rfl rfl
  · rw [hx.1.2.1.2.1, hm.1.2.1.2.1]; exact tw _ rfl rfl
  · rw [hx.1.2.1.2.2.1, hm.1.2.1.2.2.1]; exact tw _ rfl rfl
  · rw [hr, hrm]; exact tw _ rfl rfl
  · rw [hx.2.2.2.1.1, hm.2.2.2.1.1]; exact tw _ rfl rfl
  · rw [e35, em5]; exact tw _ rfl rfl
  · rw [x_going hx.2.2.1 (hV.hs hP4), m_going hm.2.1 hm.1.2.1.2.2.1 hN6 (hV.hs hP4), hV.hg6 hN6]; exact tw _ rfl rfl
  · rw [hx.2.2.1.2.2.1, hm.2.1.2.2.1]; exact tw _ rfl rfl
  · rw [e35, em5, x_awakeAt hx hW (by omega), m_awakeAt hm hW (by omega)]; exact tw _ rfl rfl
  · rw [hx.2.2.2.1.2.2.1, hm.2.2.2.1.2.2.1]; exact tw _ rfl rfl
  · rw [hx.2.2.2.1.2.2.2, hm.2.2.2.1.2.2.2]; exact tw _ rfl rfl
  · rw [hx.2.2.2.1.2.1, hm.2.2.2.1.2.1]; exact tw _ rfl rfl
  · rw [hl, hlm]; exact tw _ rfl rfl
end QQ
/-- a call keeps what stands -/
def StpK (k : Nat) : Prop := ∀ (t : Nat) (a : Nat → Int32) (σx σm : MS), t < 600 → Inv t σx σm → ∃ r σx' σm', stepX k a σx = some (r, σx') ∧ stepM k a σm = some (r, σm') ∧ Inv (t + 1) σx' σm'
theorem stp_ask {σx σm : MS} {t : Nat} {A B : Option Int32} (hI : Inv t σx σm) (h : Tw A B) : ∃ r σx' σm', A.map (fun r => (r, σx)) = some (r, σx') ∧ B.map (fun r => (r, σm)) = some (r, σm') ∧ Inv (t + 1) σx' σm' := by
  obtain ⟨r, h1, h2⟩ := h
  exact ⟨r, σx, σm, by rw [h1]; rfl, by rw [h2]; rfl, hI.up (by omega)⟩
theorem s_5 : StpK 5 := fun t a σx σm _ hI => by
  have hI0 := hI
  obtain ⟨ow, W, Wi, RR, T, len, h1, h2, h3⟩ := hI
  exact stp_ask hI0 (q_kind h1.2.2.2.1.v h2.2.2.1 h3.2.2.1.1 (a 1) (a 2))
theorem s_6 : StpK 6 := fun t a σx σm _ hI => by
  have hI0 := hI
  obtain ⟨ow, W, Wi, RR, T, len, h1, h2, h3⟩ := hI
  exact stp_ask hI0 (q_person h1.2.2.2.1.v h2.2.2.1 h3.2.2.1.1 (a 1) (a 2))
theorem s_7 : StpK 7 := fun t a σx σm _ hI => by
  have hI0 := hI
  obtain ⟨ow, W, Wi, RR, T, len, h1, h2, h3⟩ := hI
  exact stp_ask hI0 (q_work h1.2.2.2.1.v h2.2.2.1 h3.2.2.1.1 (a 1) (a 2))
theorem s_29 : StpK 29 := fun t a σx σm _ hI => by
  have hI0 := hI
  obtain ⟨ow, W, Wi, RR, T, len, h1, h2, h3⟩ := hI
  exact stp_ask hI0 (q_count h1.2.2.2.1.v h2.2.2.1 h3.2.2.1.1 h1.2.2.1.1 h2.2.1.1 h1.2.1.1 h2.1.1 (a 1))
end
