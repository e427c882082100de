/-! ===== pure: the clauses of a duchy's text ===== -/
section
section CL
variable {len : Nat} {T : Nat → Nat}
theorem m_find1 {i n : Nat} {y1 y2 : Int32} {σ : MS} {q : Nat} (hl : len ≤ 400) (hT : ∀ i, i < len → T i < 256) (h : TM len T σ) (hq : q ≤ 1000) (e : sI σ 0 30 = nI q) (hi : i < 6) : b_X12_duchyClause_11 (n + 1) y1 y2 (nI i) σ = if mtN T len q (3 + i) = 1 then b_X12_duchyClause_34 y1 y2 (nI i) σ else b_X12_duchyClause_11 n y1 y2 (nI (i + 1)) σ := by
  have hw : ∀ i, i < 6 → f_X12_duchyWord (nI i) = some (3 + i) := by decide
  have hm := mtN_01 T len q (3 + i)
  conv => lhs; unfold b_X12_duchyClause_11
  rw [q_ln_le (by decide) (by omega), if_neg (by omega), hw i hi, bnd, chk_t (by omega), m_stood hl hT (by omega) h (by omega) e, bnd, q_zero (by omega), nI_1]
  by_cases c : mtN T len q (3 + i) = 1
  · rw [if_pos c, if_neg (by omega)]
  · rw [if_neg c, if_pos (by omega)]
/-- which clause it is: 0 none -/
def cls (T : Nat → Nat) (len q : Nat) : Nat := wsr (mtN T len q) [3, 4, 5, 6, 7, 8] 0
theorem cls_eq (T : Nat → Nat) (len q : Nat) : cls T len q = if mtN T len q 3 = 1 then 1 else if mtN T len q 4 = 1 then 2 else if mtN T len q 5 = 1 then 3 else if mtN T len q 6 = 1 then 4 else if mtN T len q 7 = 1 then 5 else if mtN T len q 8 = 1 then 6 else 0 := rfl
theorem cls_mt (T : Nat → Nat) (len q k : Nat) (h : cls T len q = k + 1) : k < 6 ∧ mtN T len q (3 + k) = 1 := by
  rw [cls_eq] at h
  by_cases c3 : mtN T len q 3 = 1
  · rw [if_pos c3] at h; have : k = 0 := by omega
    subst this; exact ⟨by omega, c3⟩
  rw [if_neg c3] at h
  by_cases c4 : mtN T len q 4 = 1
  · rw [if_pos c4] at h; have : k = 1 := by omega
    subst this; exact ⟨by omega, c4⟩
  rw [if_neg c4] at h
  by_cases c5 : mtN T len q 5 = 1
  · rw [if_pos c5] at h; have : k = 2 := by omega
    subst this; exact ⟨by omega, c5⟩
  rw [if_neg c5] at h
  by_cases c6 : mtN T len q 6 = 1
  · rw [if_pos c6] at h; have : k = 3 := by omega
    subst this; exact ⟨by omega, c6⟩
  rw [if_neg c6] at h
  by_cases c7 : mtN T len q 7 = 1
  · rw [if_pos c7] at h; have : k = 4 := by omega
    subst this; exact ⟨by omega, c7⟩
  rw [if_neg c7] at h
  by_cases c8 : mtN T len q 8 = 1
  · rw [if_pos c8] at h; have : k = 5 := by omega
    subst this; exact ⟨by omega, c8⟩
  rw [if_neg c8] at h; omega
theorem cls_le (T : Nat → Nat) (len q : Nat) : cls T len q ≤ 6 := wsr_le _ _ _
theorem m_find {y1 y2 : Int32} {σ : MS} {q : Nat} (hl : len ≤ 400) (hT : ∀ i, i < len → T i < 256) (h : TM len T σ) (hq : q ≤ 1000) (e : sI σ 0 30 = nI q) : b_X12_duchyClause_11 FU y1 y2 0 σ = b_X12_duchyClause_34 y1 y2 (nI (if cls T len q = 0 then 6 else cls T len q - 1)) σ := by
  have hF := FU_big
  obtain ⟨F, hFe⟩ : ∃ F, FU = F + 1 + 1 + 1 + 1 + 1 + 1 + 1 := ⟨FU - 7, by omega⟩
  rw [hFe, show (0 : Int32) = nI 0 from rfl, m_find1 hl hT h hq e (by omega), m_find1 hl hT h hq e (by omega), m_find1 hl hT h hq e (by omega), m_find1 hl hT h hq e (by omega), m_find1 hl hT h hq e (by omega), m_find1 hl hT h hq e (by omega), cls_eq]
  by_cases c3 : mtN T len q 3 = 1
  · rw [if_pos c3, if_pos c3]; rfl
  rw [if_neg c3, if_neg c3]
  by_cases c4 : mtN T len q 4 = 1
  · rw [if_pos c4, if_pos c4]; rfl
  rw [if_neg c4, if_neg c4]
  by_cases c5 : mtN T len q 5 = 1
  · rw [if_pos c5, if_pos c5]; rfl
  rw [if_neg c5, if_neg c5]
  by_cases c6 : mtN T len q 6 = 1
  · rw [if_pos c6, if_pos c6]; rfl
  rw [if_neg c6, if_neg c6]
  by_cases c7 : mtN T len q 7 = 1
  · rw [if_pos c7, if_pos c7]; rfl
  rw [if_neg c7, if_neg c7]
  by_cases c8 : mtN T len q 8 = 1
  · rw [if_pos c8, if_pos c8]; rfl
  rw [if_neg c8, if_neg c8, if_pos rfl]
  conv => lhs; unfold b_X12_duchyClause_11
  rw [if_pos (by decide)]
/-- what may stand here -/
theorem w_stand {told K P N n k : Nat} {L S : Row2} {σx σm : MS} (D : Dft told K P N L S σx σm) (hW : WD told K P N L S) (ht : told = if n = 0 then 0 else 1) (hn : n < 40) (hk : k < 6) : ∃ b, b ≤ 1 ∧ f_X2_canStand (nI k) σx = some (nI b) ∧ f_X12_isFull (nI k) (nI n) σm = some (nI (1 - b)) ∧ (b = 1 → (k = 0 ↔ n = 0) ∧ (k = 1 → K < 5) ∧ (k = 2 → P < 4) ∧ (k = 3 → N < 6)) := by
  obtain ⟨⟨hK5, hP4, hN6, hf⟩, _⟩ := hW.2.1
  obtain ⟨⟨d1, ⟨⟨l1, l2, l3, l4⟩, _⟩, d3⟩, ⟨d4, d5, d6, d7, d8⟩, _⟩ := D
  have t1 := hW.1
  have eF : f_X12_isFull (nI k) (nI n) σm = if (k = 0 ↔ n = 0) then (if k = 1 then some (if K = 5 then 1 else 0) else if k = 2 then some (if P = 4 then 1 else 0) else if k = 3 then some (if N = 6 then 1 else 0) else some 0) else some 1 := by
    unfold f_X12_isFull b_X12_isFull_0 b_X12_isFull_15 b_X12_isFull_24 b_X12_isFull_27 b_X12_isFull_71 b_X12_isFull_87 b_X12_isFull_104
    rw [q_nl_eq (by decide) (by omega), if_neg (show ¬ n = 40 by omega), d6, d7, d8]
    repeat rw [q_nl_eq (by decide) (by omega)]
    rw [chk_t (Or.inr rfl), chk_t (Or.inl rfl)]
    by_cases ck : k = 0
    · by_cases cn : n = 0
      · rw [if_pos ck, if_pos cn, if_pos rfl, if_pos (show (k = 0 ↔ n = 0) from ⟨fun _ => cn, fun _ => ck⟩)]
        rw [if_neg (show ¬ k = 1 by omega), if_neg (show ¬ k = 2 by omega), if_neg (show ¬ k = 3 by omega), if_neg (show ¬ k = 1 by omega), if_neg (show ¬ k = 2 by omega), if_neg (show ¬ k = 3 by omega)]
      · rw [if_pos ck, if_neg cn, if_neg one_ne, if_neg (show ¬ (k = 0 ↔ n = 0) from fun z => cn (z.mp ck))]
    · by_cases cn : n = 0
      · rw [if_neg ck, if_pos cn, if_neg (show ¬ (0 : Int32) = 1 by decide), if_neg (show ¬ (k = 0 ↔ n = 0) from fun z => ck (z.mpr cn))]
      · rw [if_neg ck, if_neg cn, if_pos rfl, if_pos (show (k = 0 ↔ n = 0) from ⟨fun z => absurd z ck, fun z => absurd z cn⟩)]
        by_cases k1 : k = 1
        · rw [if_pos k1, if_pos k1]
          split <;> rfl
        · rw [if_neg k1, if_neg k1]
          by_cases k2 : k = 2
          · rw [if_pos k2, if_pos k2]
            split <;> rfl
          · rw [if_neg k2, if_neg k2]
            by_cases k3 : k = 3
            · rw [if_pos k3, if_pos k3]
              split <;> rfl
            · rw [if_neg k3, if_neg k3]
  have eC : f_X2_canStand (nI k) σx = if k = 0 then some (if told = 0 then 1 else 0) else if k = 1 then some (if told = 0 then 0 else if 5 ≤ K then 0 else 1) else if k = 2 then some (if told = 0 then 0 else if 4 ≤ P then 0 else 1) else if k = 3 then some (if told = 0 then 0 else if 6 ≤ N then 0 else 1) else some (nI told) := by
    unfold f_X2_canStand b_X2_canStand_0 b_X2_canStand_47 b_X2_canStand_73 b_X2_canStand_74 b_X2_canStand_100 b_X2_canStand_101 b_X2_canStand_128 b_X2_canStand_129
    have htc : nI told = 0 ∨ nI told = 1 := by
      rcases (by omega : told = 0 ∨ told = 1) with e | e
      · left; rw [e]; rfl
      · right; rw [e]; rfl
    rw [d1, l1, l2, l3]
    repeat rw [q_nl_eq (by decide) (by omega)]
    rw [q_ln_le (by decide) (by omega), q_ln_le (by decide) (by omega), q_ln_le (by decide) (by omega), chk_t (Or.inr rfl), chk_t (Or.inl rfl), chk_t htc]
    by_cases k0 : k = 0
    · rw [if_pos k0, if_pos k0]; split <;> rfl
    · rw [if_neg k0, if_neg k0]
      by_cases k1 : k = 1
      · rw [if_pos k1, if_pos k1]
        by_cases t0 : told = 0
        · rw [if_pos t0, if_pos t0]
        · rw [if_neg t0, if_neg t0]; split <;> rfl
      · rw [if_neg k1, if_neg k1]
        by_cases k2 : k = 2
        · rw [if_pos k2, if_pos k2]
          by_cases t0 : told = 0
          · rw [if_pos t0, if_pos t0]
          · rw [if_neg t0, if_neg t0]; split <;> rfl
        · rw [if_neg k2, if_neg k2]
          by_cases k3 : k = 3
          · rw [if_pos k3, if_pos k3]
            by_cases t0 : told = 0
            · rw [if_pos t0, if_pos t0]
            · rw [if_neg t0, if_neg t0]; split <;> rfl
          · rw [if_neg k3, if_neg k3]
  rw [eF, eC]
  by_cases cn : n = 0
  · have t0 : told = 0 := by rw [ht, if_pos cn]
    by_cases k0 : k = 0
    · refine ⟨1, by omega, by rw [if_pos k0, if_pos t0]; rfl, ?_, fun _ => ⟨⟨fun _ => cn, fun _ => k0⟩, by omega, by omega, by omega⟩⟩
      rw [if_pos (show (k = 0 ↔ n = 0) from ⟨fun _ => cn, fun _ => k0⟩), if_neg (show ¬ k = 1 by omega), if_neg (show ¬ k = 2 by omega), if_neg (show ¬ k = 3 by omega)]; rfl
    · refine ⟨0, by omega, ?_, by rw [if_neg (show ¬ (k = 0 ↔ n = 0) from fun z => k0 (z.mpr cn))]; rfl, fun z => by omega⟩
      rw [if_neg k0, if_pos t0, if_pos t0, if_pos t0, t0]
      split
      · rfl
      · split
        · rfl
        · split <;> rfl
  · have t0 : ¬ told = 0 := by rw [ht, if_neg cn]; decide
    have t1' : told = 1 := by omega
    by_cases k0 : k = 0
    · exact ⟨0, by omega, by rw [if_pos k0, if_neg t0]; rfl, by rw [if_neg (show ¬ (k = 0 ↔ n = 0) from fun z => cn (z.mp k0))]; rfl, fun z => by omega⟩
    · have hiff : (k = 0 ↔ n = 0) := ⟨fun z => absurd z k0, fun z => absurd z cn⟩
      rw [if_pos hiff, if_neg k0, if_neg t0, if_neg t0, if_neg t0]
      by_cases k1 : k = 1
      · rw [if_pos k1, if_pos k1]
        by_cases c : 5 ≤ K
        · exact ⟨0, by omega, by rw [if_pos c]; rfl, by rw [if_pos (show K = 5 by omega)]; rfl, fun z => by omega⟩
        · exact ⟨1, by omega, by rw [if_neg c]; rfl, by rw [if_neg (show ¬ K = 5 by omega)]; rfl, fun _ => ⟨hiff, fun _ => by omega, by omega, by omega⟩⟩
      · rw [if_neg k1, if_neg k1]
        by_cases k2 : k = 2
        · rw [if_pos k2, if_pos k2]
          by_cases c : 4 ≤ P
          · exact ⟨0, by omega, by rw [if_pos c]; rfl, by rw [if_pos (show P = 4 by omega)]; rfl, fun z => by omega⟩
          · exact ⟨1, by omega, by rw [if_neg c]; rfl, by rw [if_neg (show ¬ P = 4 by omega)]; rfl, fun _ => ⟨hiff, by omega, fun _ => by omega, by omega⟩⟩
        · rw [if_neg k2, if_neg k2]
          by_cases k3 : k = 3
          · rw [if_pos k3, if_pos k3]
            by_cases c : 6 ≤ N
            · exact ⟨0, by omega, by rw [if_pos c]; rfl, by rw [if_pos (show N = 6 by omega)]; rfl, fun z => by omega⟩
            · exact ⟨1, by omega, by rw [if_neg c]; rfl, by rw [if_neg (show ¬ N = 6 by omega)]; rfl, fun _ => ⟨hiff, by omega, by omega, fun _ => by omega⟩⟩
          · rw [if_neg k3, if_neg k3]
            exact ⟨1, by omega, by rw [t1'], rfl, fun _ => ⟨hiff, by omega, by omega, by omega⟩⟩
/-- the class reads a clause -/
def clsX (n : Nat) (σ : MS) : Option MS := (f_X2_openClause (nI n) σ).bind (fun r26 => if r26.1 = (0 : Int32) then f_X2_readDuchy r26.2 else if r26.1 = (1 : Int32) then f_X2_readKind r26.2 else if r26.1 = (2 : Int32) then f_X2_readPerson r26.2 else if r26.1 = (3 : Int32) then f_X2_readWork r26.2 else if r26.1 = (4 : Int32) then f_X2_readHeld r26.2 else if r26.1 = (5 : Int32) then f_X2_readAfter r26.2 else some r26.2)
theorem clause (hl : len ≤ 400) (hT : ∀ i, i < len → T i < 256) {p told K P N n : Nat} {L S : Row2} {σx σm : MS} (Ls : LSy 16 T len p σx σm) (D : Dft told K P N L S σx σm) (hW : WD told K P N L S) (ht : told = if n = 0 then 0 else 1) (hn : n ≤ 40) :
    ∃ σx' σm', clsX n σx = some σx' ∧ f_X12_duchyClause (nI n) σm = some σm' ∧ FrX σx σx' ∧ FrM σm σm' ∧ ((n < 40 ∧ ∃ p K P N L S, LSy 16 T len p σx' σm' ∧ Dft 1 K P N L S σx' σm' ∧ WD 1 K P N L S) ∨ ∃ f, f ≠ 0 ∧ f ≤ 4000 ∧ sI σx' 16 6 = nI f ∧ FltM T len f σm') := by
  obtain ⟨tx, tm, hp, e1, e30, e6, e31⟩ := Ls
  obtain ⟨σ1, a1, a2, a3, a4, a5⟩ := x_adv (a := 16) (by decide) (by decide) hl hT tx hp e1
  obtain ⟨σ2, b1, b2, b3, b4⟩ := m_blanks hl hT (by omega) tm e30
  obtain ⟨hq1, hq2⟩ := skB_le T hp
  have z6 : sI σ1 16 6 = 0 := by rw [a3]; exact e6
  have z31 : sI σ2 0 31 = 0 := by rw [b3]; exact e31
  have tm2 := tm.fr b2
  have tx1 := tx.fa a2 (by decide) (by decide)
  have D1 : Dft told K P N L S σ1 σ2 := D.fr (fun b q1 q2 => a2.2 b (by omega)) (fun b q1 q2 => b2.2.1 b (by omega))
  generalize hq : skB T len p = q at a4 a5 b4 hq1 hq2
  have hwa : f_X4_wordAmong 16 0 σ1 = some (hI (cls T len q)) := x_among_tok hl hT tx1 (by decide) hq2 a5 a4 ok_w0 (by decide) (by decide)
  have hcl := cls_le T len q
  have hmf : f_X12_duchyClause (nI n) σm = b_X12_duchyClause_34 (nI n) (nI q) (nI (if cls T len q = 0 then 6 else cls T len q - 1)) σ2 := by
    unfold f_X12_duchyClause b_X12_duchyClause_0
    rw [b1, bnd, b4, m_find hl hT tm2 (by omega) b4]
  -- a fault with a code
  have flt : ∀ c, c ≤ 4 → ∃ σx' σm', (some (wI σ1 16 6 (nI (1 + 8 * q + c))) : Option MS) = some σx' ∧ (some (wI σ2 0 31 (nI (1 + 8 * q + c))) : Option MS) = some σm' ∧ FrX σx σx' ∧ FrM σm σm' ∧ ((n < 40 ∧ ∃ p K P N L S, LSy 16 T len p σx' σm' ∧ Dft 1 K P N L S σx' σm' ∧ WD 1 K P N L S) ∨ ∃ f, f ≠ 0 ∧ f ≤ 4000 ∧ sI σx' 16 6 = nI f ∧ FltM T len f σm') := fun c hc => ⟨_, _, rfl, rfl, (a2.trans (FA.w 16 _ _ _)).fx, (b2.trans (FR.w31 _ _)).fm, Or.inr ⟨1 + 8 * q + c, by omega, by omega, sI_wIs _ _ _ _, tm2.fr (FR.w31 _ _), ⟨q, by omega, by rw [sI_wIk _ _ _ _ (by decide)]; exact b4⟩, sI_wIs _ _ _ _⟩⟩
  have openF : ∀ (c w : Nat), c ≤ 4 → f_X2_openClause (nI n) σx = b_X2_openClause_55 (hI w) (wI σ1 16 6 (nI (1 + 8 * q + c))) → clsX n σx = some (wI σ1 16 6 (nI (1 + 8 * q + c))) := fun c w hc h => by
    unfold clsX
    rw [h]
    unfold b_X2_openClause_55 b_X2_openClause_70
    rw [sI_wIs, q_zero (by omega), if_neg (by omega), bnd]
    rfl
  rw [hmf]
  unfold b_X12_duchyClause_34
  by_cases c0 : cls T len q = 0
  · have ho : f_X2_openClause (nI n) σx = b_X2_openClause_55 (hI 0) (wI σ1 16 6 (nI (1 + 8 * q + 0))) := by
      unfold f_X2_openClause b_X2_openClause_0
      rw [a1, bnd, hwa, bnd, c0, if_pos hI_0, x_fail (x := (0 : Int32)) (c := 0) (q := q) rfl z6 a4, bnd]
    rw [openF 0 0 (by omega) ho, c0, if_pos rfl, if_pos (show nI 6 = (6 : Int32) from rfl), m_fails (x := (0 : Int32)) (c := 0) (q := q) rfl rfl z31, bnd]
    exact flt 0 (by omega)
  · obtain ⟨k, hk⟩ : ∃ k, cls T len q = k + 1 := ⟨cls T len q - 1, by omega⟩
    obtain ⟨hk6, hmt⟩ := cls_mt T len q k hk
    rw [if_neg c0, hk, Nat.add_sub_cancel, q_nl_eq (by decide) (by omega), if_neg (show ¬ k = 6 by omega)]
    have hon : ¬ hI (k + 1) = (-1 : Int32) := by rw [hI_s]; exact n_neg1 (by omega)
    have hopen4 : f_X2_openClause (nI n) σx = (if 40 ≤ n then b_X2_openClause_47 (hI (k + 1)) σ1 else (f_X2_canStand (nI k) σ1).bind (fun r17 => if r17 = 0 then b_X2_openClause_47 (hI (k + 1)) σ1 else b_X2_openClause_55 (hI (k + 1)) σ1)) := by
      unfold f_X2_openClause b_X2_openClause_0
      rw [a1, bnd, hwa, bnd, hk, if_neg hon, q_ln_le (by decide) (by omega), hI_s]
    have h47 : b_X2_openClause_47 (hI (k + 1)) σ1 = b_X2_openClause_55 (hI (k + 1)) (wI σ1 16 6 (nI (1 + 8 * q + 4))) := by
      unfold b_X2_openClause_47
      rw [x_fail (x := (4 : Int32)) (c := 4) (q := q) rfl z6 a4, bnd]
    have f4 : f_X12_fails (4 : Int32) (nI q) σ2 = some (wI σ2 0 31 (nI (1 + 8 * q + 4))) := m_fails (x := (4 : Int32)) (c := 4) (q := q) rfl rfl z31
    by_cases cn : 40 ≤ n
    · have hfull : f_X12_isFull (nI k) (nI n) σ2 = some 1 := by
        unfold f_X12_isFull b_X12_isFull_0 b_X12_isFull_27
        rw [q_nl_eq (by decide) (by omega), if_pos (show n = 40 by omega)]
      rw [openF 4 (k + 1) (by omega) (by rw [hopen4, if_pos cn, h47]), hfull, bnd, if_neg one_ne, f4, bnd]
      exact flt 4 (by omega)
    · obtain ⟨b, s1, s2, s3, s4⟩ := w_stand D1 hW ht (by omega) hk6
      by_cases cb : b = 0
      · subst cb
        rw [openF 4 (k + 1) (by omega) (by rw [hopen4, if_neg cn, s2, bnd, if_pos (show nI 0 = 0 from rfl), h47]), s3, bnd, if_neg (show ¬ nI (1 - 0) = 0 by decide), f4, bnd]
        exact flt 4 (by omega)
      · have cb : b = 1 := by omega
        subst cb
        obtain ⟨u1, u2, u3, u4⟩ := s4 rfl
        have hop : f_X2_openClause (nI n) σx = some (nI k, σ1) := by
          rw [hopen4, if_neg cn, s2, bnd, if_neg (show ¬ nI 1 = 0 by decide)]
          unfold b_X2_openClause_55 b_X2_openClause_70
          rw [if_pos z6, hI_s]
        have hsl : skL T len q - q = slen.getD (3 + k) 0 := by
          unfold mtN at hmt
          by_cases c : skL T len q - q = slen.getD (3 + k) 0 ∧ ∀ j, j < slen.getD (3 + k) 0 → T (q + j) = chr (3 + k) j
          · exact c.1
          · rw [if_neg c] at hmt; omega
        have hw : ∀ i, i < 6 → f_X12_duchyWord (nI i) = some (3 + i) := by decide
        obtain ⟨hs1, hs2⟩ := skL_le T hq2
        have hlt : q < len ∧ 97 ≤ T q ∧ T q ≤ 122 := by
          by_cases c : q < len ∧ 97 ≤ T q ∧ T q ≤ 122
          · exact c
          · rw [mtN_no (by omega) c] at hmt; omega
        have en : sI σ1 16 1 = nI (skL T len q) := by
          rcases a5 with ⟨t1, _⟩ | ⟨t1, t2, _⟩ | ⟨t1, t2, t3, t4⟩ | ⟨t1, t2, t3, _⟩
          · omega
          · omega
          · exact t4
          · exact absurd hlt.2 t3
        have emm : (f_X12_duchyWord (nI k)).bind (fun r20 => chk (r20 < 23) ((f_J0_length_8abf5 r20).bind (fun r22 => (f_X12_duchyPart (nI k) (wI σ2 0 30 ((sI σ2 0 30) + r22))).bind (fun r23 => some (r23))))) = f_X12_duchyPart (nI k) (wI σ2 0 30 (nI (skL T len q))) := by
          rw [hw k hk6, bnd, chk_t (by omega), len_ok _ (by omega), bnd, b4, nI_add, ← hsl, show q + (skL T len q - q) = skL T len q by omega]
          cases f_X12_duchyPart (nI k) (wI σ2 0 30 (nI (skL T len q))) <;> rfl
        have Lk : LSy 16 T len (skL T len q) σ1 (wI σ2 0 30 (nI (skL T len q))) := ⟨tx1, tm2.fr (FR.w30 _ _), hs2, en, sI_wIs _ _ _ _, z6, by rw [sI_wIk _ _ _ _ (by decide)]; exact z31⟩
        have Dk : Dft told K P N L S σ1 (wI σ2 0 30 (nI (skL T len q))) := D1.fr (fun _ _ _ => rfl) (fun b q1 q2 => sI_wIn _ _ _ _ (by omega))
        have fin : ∀ (E1 E2 : Option MS), (∃ σx' σm', E1 = some σx' ∧ E2 = some σm' ∧ Res T len σ1 (wI σ2 0 30 (nI (skL T len q))) σx' σm') → ∃ σx' σm', E1 = some σx' ∧ E2 = some σm' ∧ FrX σx σx' ∧ FrM σm σm' ∧ ((n < 40 ∧ ∃ p K P N L S, LSy 16 T len p σx' σm' ∧ Dft 1 K P N L S σx' σm' ∧ WD 1 K P N L S) ∨ ∃ f, f ≠ 0 ∧ f ≤ 4000 ∧ sI σx' 16 6 = nI f ∧ FltM T len f σm') := fun E1 E2 ⟨σx', σm', g1, g2, g3, g4, g5⟩ => ⟨σx', σm', g1, g2, a2.fx.trans g3, b2.fm.trans ((FR.w30 _ _).fm.trans g4), g5.imp (fun g => ⟨by omega, g⟩) id⟩
        unfold clsX
        rw [hop, bnd, s3, bnd, if_pos (show nI (1 - 1) = 0 from rfl), emm]
        show ∃ σx' σm', (if nI k = (0 : Int32) then f_X2_readDuchy σ1 else if nI k = (1 : Int32) then f_X2_readKind σ1 else if nI k = (2 : Int32) then f_X2_readPerson σ1 else if nI k = (3 : Int32) then f_X2_readWork σ1 else if nI k = (4 : Int32) then f_X2_readHeld σ1 else if nI k = (5 : Int32) then f_X2_readAfter σ1 else some σ1) = some σx' ∧ _
        have ht1 : k ≠ 0 → told = 1 := fun k0 => by rw [ht, if_neg (fun z => k0 (u1.mpr z))]
        rcases (by omega : k = 0 ∨ k = 1 ∨ k = 2 ∨ k = 3 ∨ k = 4 ∨ k = 5) with e | e | e | e | e | e <;> subst e
        · exact fin _ _ (part_0 hl hT Lk Dk hW)
        · have t1 := ht1 (by decide); subst t1
          exact fin _ _ (part_1 hl hT Lk Dk hW (u2 rfl))
        · have t1 := ht1 (by decide); subst t1
          exact fin _ _ (part_2 hl hT Lk Dk hW (u3 rfl))
        · have t1 := ht1 (by decide); subst t1
          exact fin _ _ (part_3 hl hT Lk Dk hW (u4 rfl))
        · have t1 := ht1 (by decide); subst t1
          exact fin _ _ (part_4 hl hT Lk Dk hW)
        · have t1 := ht1 (by decide); subst t1
          exact fin _ _ (part_5 hl hT Lk Dk hW)
end CL
end
