/-! ===== pure: an hour ===== -/
section
def aLay (S : Row2) (k : Nat) : Row2 := up2 (up2 S 0 k 0) 3 3 (clr (S 3 3) k)
theorem aLay_0 (S : Row2) (k w : Nat) : aLay S k 0 w = if w = k then 0 else S 0 w := by simp [aLay, up2]
theorem aLay_1 (S : Row2) (k : Nat) : aLay S k 1 = S 1 := by funext w; simp [aLay, up2]
theorem aLay_2 (S : Row2) (k : Nat) : aLay S k 2 = S 2 := by funext w; simp [aLay, up2]
theorem aLay_33 (S : Row2) (k : Nat) : aLay S k 3 3 = clr (S 3 3) k := by simp [aLay, up2]
theorem aLay_34 (S : Row2) (k : Nat) : aLay S k 3 4 = S 3 4 := by simp [aLay, up2]
theorem aLay_35 (S : Row2) (k : Nat) : aLay S k 3 5 = S 3 5 := by simp [aLay, up2]
theorem WS.lay {P N : Nat} {S : Row2} (h : WS P N S) {k : Nat} (hk : k < 6) : WS P N (aLay S k) := by
  obtain ⟨h1, h2, ⟨h3, h4⟩, h5, h6⟩ := h
  refine ⟨fun w hw => ?_, fun p hp => ?_, ⟨?_, fun w hw h0 => ?_⟩, ?_, ?_⟩
  · rw [aLay_0]
    split
    · exact ⟨by omega, fun _ => rfl⟩
    · exact h1 w hw
  · rw [aLay_2]; exact h2 p hp
  · rw [aLay_33]; exact b_clr_lt _ h3 k hk
  · rw [aLay_33, b_clr_bt _ h3 k hk w hw]
    rw [aLay_0] at h0
    split
    · rfl
    · rename_i hne
      rw [if_neg hne] at h0
      exact h4 w hw h0
  · rw [aLay_34]; exact h5
  · rw [aLay_35]; exact h6
theorem WS.hold {P N : Nat} {S : Row2} (h : WS P N S) {k v : Nat} (hk : k < N) (hv : v ≤ P) (h0 : v ≠ 0) : WS P N (up2 S 0 k v) := by
  obtain ⟨h1, h2, ⟨h3, h4⟩, h5, h6⟩ := h
  refine ⟨fun w hw => ?_, fun p hp => ?_, ⟨?_, fun w hw g => ?_⟩, ?_, ?_⟩
  · by_cases e : w = k
    · subst e; rw [up2_s]; exact ⟨hv, fun q => absurd q (by omega)⟩
    · rw [up2_k _ _ _ e]; exact h1 w hw
  · rw [up2_n _ _ _ _ (by decide)]; exact h2 p hp
  · rw [up2_n _ _ _ _ (by decide)]; exact h3
  · rw [up2_n _ _ _ _ (by decide)]
    by_cases e : w = k
    · subst e; rw [up2_s] at g; exact absurd g h0
    · rw [up2_k _ _ _ e] at g; exact h4 w hw g
  · rw [up2_n _ _ _ _ (by decide)]; exact h5
  · rw [up2_n _ _ _ _ (by decide)]; exact h6
theorem WS.stop {P N : Nat} {S : Row2} (h : WS P N S) (k v : Nat) : WS P N (up2 S 1 k v) := by
  obtain ⟨h1, h2, ⟨h3, h4⟩, h5, h6⟩ := h
  have e0 : ∀ w, up2 S 1 k v 0 w = S 0 w := fun w => up2_n _ _ _ _ (by decide)
  refine ⟨fun w hw => ?_, fun p hp => ?_, ⟨?_, fun w hw g => ?_⟩, ?_, ?_⟩
  · rw [e0]; exact h1 w hw
  · rw [up2_n _ _ _ _ (by decide)]; exact h2 p hp
  · rw [up2_n _ _ _ _ (by decide)]; exact h3
  · rw [up2_n _ _ _ _ (by decide)]; rw [e0] at g; exact h4 w hw g
  · rw [up2_n _ _ _ _ (by decide)]; exact h5
  · rw [up2_n _ _ _ _ (by decide)]; exact h6
theorem WS.purs {P N : Nat} {S : Row2} (h : WS P N S) {p v : Nat} (hp : p < P) (hv : v ≤ 9999) : WS P N (up2 S 2 p v) := by
  obtain ⟨h1, h2, ⟨h3, h4⟩, h5, h6⟩ := h
  have e0 : ∀ w, up2 S 2 p v 0 w = S 0 w := fun w => up2_n _ _ _ _ (by decide)
  refine ⟨fun w hw => ?_, fun i hi => ?_, ⟨?_, fun w hw g => ?_⟩, ?_, ?_⟩
  · rw [e0]; exact h1 w hw
  · by_cases e : i = p
    · subst e; rw [up2_s]; exact ⟨hv, fun q => absurd q (by omega)⟩
    · rw [up2_k _ _ _ e]; exact h2 i hi
  · rw [up2_n _ _ _ _ (by decide)]; exact h3
  · rw [up2_n _ _ _ _ (by decide)]; rw [e0] at g; exact h4 w hw g
  · rw [up2_n _ _ _ _ (by decide)]; exact h5
  · rw [up2_n _ _ _ _ (by decide)]; exact h6
theorem WS.chst {P N : Nat} {S : Row2} (h : WS P N S) {v : Nat} (hv : v ≤ 99999) : WS P N (up2 S 3 4 v) := by
  obtain ⟨h1, h2, ⟨h3, h4⟩, h5, h6⟩ := h
  have e0 : ∀ w, up2 S 3 4 v 0 w = S 0 w := fun w => up2_n _ _ _ _ (by decide)
  refine ⟨fun w hw => ?_, fun i hi => ?_, ⟨?_, fun w hw g => ?_⟩, ?_, ?_⟩
  · rw [e0]; exact h1 w hw
  · rw [up2_n _ _ _ _ (by decide)]; exact h2 i hi
  · rw [up2_k _ _ _ (by decide)]; exact h3
  · rw [up2_k _ _ _ (by decide)]; rw [e0] at g; exact h4 w hw g
  · rw [up2_s]; exact hv
  · rw [up2_k _ _ _ (by decide)]; exact h6
theorem WS.hr {P N : Nat} {S : Row2} (h : WS P N S) {v : Nat} (hv : v ≤ 3000) : WS P N (up2 S 3 5 v) := by
  obtain ⟨h1, h2, ⟨h3, h4⟩, h5, h6⟩ := h
  have e0 : ∀ w, up2 S 3 5 v 0 w = S 0 w := fun w => up2_n _ _ _ _ (by decide)
  refine ⟨fun w hw => ?_, fun i hi => ?_, ⟨?_, fun w hw g => ?_⟩, ?_, ?_⟩
  · rw [e0]; exact h1 w hw
  · rw [up2_n _ _ _ _ (by decide)]; exact h2 i hi
  · rw [up2_k _ _ _ (by decide)]; exact h3
  · rw [up2_k _ _ _ (by decide)]; rw [e0] at g; exact h4 w hw g
  · rw [up2_k _ _ _ (by decide)]; exact h5
  · rw [up2_s]; exact hv
theorem WS.snk {P N : Nat} {S : Row2} (h : WS P N S) {v : Nat} (hv : v < 64) (hb : ∀ w, w < 6 → S 0 w = 0 → bt v w = 0) : WS P N (up2 S 3 3 v) := by
  obtain ⟨h1, h2, ⟨h3, h4⟩, h5, h6⟩ := h
  have e0 : ∀ w, up2 S 3 3 v 0 w = S 0 w := fun w => up2_n _ _ _ _ (by decide)
  refine ⟨fun w hw => ?_, fun i hi => ?_, ⟨?_, fun w hw g => ?_⟩, ?_, ?_⟩
  · rw [e0]; exact h1 w hw
  · rw [up2_n _ _ _ _ (by decide)]; exact h2 i hi
  · rw [up2_s]; exact hv
  · rw [up2_s]; rw [e0] at g; exact hb w hw g
  · rw [up2_k _ _ _ (by decide)]; exact h5
  · rw [up2_k _ _ _ (by decide)]; exact h6
theorem x_lay {a : Nat} {σ : MS} {S : Row2} (hS : SX a σ S) {k : Nat} (hk : k < 6) (h64 : S 3 3 < 64) : ∃ σ', f_X8_lay a (nI k) σ = some σ' ∧ SX a σ' (aLay S k) ∧ FX a σ σ' := by
  have h1 := hS.hold k 0 (x := -1) hI_0.symm
  have e3 : sI (wI σ (a + 1) k (-1)) a 3 = nI (S 3 3) := by rw [sI_wIn _ _ _ _ (by omega)]; exact hS.2.2.1
  refine ⟨wI (wI σ (a + 1) k (-1)) a 3 (nI (clr (S 3 3) k)), ?_, h1.fld 3 _ rfl, (FX.w a σ 1 (by omega) _ _).trans (FX.w0 a _ _ _)⟩
  unfold f_X8_lay b_X8_lay_0
  rw [chk_t (in_n hk (by decide)), ix_n (by omega), e3, b_clr _ h64 k hk]
theorem m_drops {σ : MS} {P N : Nat} {S : Row2} (hS : SM σ P N S) {k : Nat} (hk : k < 6) (h64 : S 3 3 < 64) : ∃ σ', f_X12_drops (nI k) σ = some σ' ∧ SM σ' P N (aLay S k) ∧ FM σ σ' := by
  have h1 := hS.hold k 0 (x := -1) hI_0.symm
  have e3 : sI (wI σ 9 k (-1)) 1 6 = nI (S 3 3) := by rw [sI_wIn _ _ _ _ (by decide)]; exact hS.2.2.1
  refine ⟨wI (wI σ 9 k (-1)) 1 6 (nI (clr (S 3 3) k)), ?_, h1.snk _ rfl, (FM.row σ _ _ (by decide)).trans (FM.fld _ _ (by decide))⟩
  unfold f_X12_drops b_X12_drops_0
  rw [chk_t (in_n hk (by decide)), ix_n (by omega), e3, b_clr _ h64 k hk]
/-- a state and a land, on both sides -/
def Both (a : Nat) (σx σm : MS) (K P N : Nat) (L S : Row2) : Prop := LH σx K P N L ∧ LM σm K P N L ∧ SX a σx S ∧ SM σm P N S ∧ WS P N S ∧ Rl σx σm
theorem RXc.fr {σ σ' : MS} {b : Nat} {cs : List Ent} (h : RXc σ b cs) (hs : Sm σ σ') (hi : sI σ' (b + 1) = sI σ (b + 1)) : RXc σ' b cs := by
  obtain ⟨⟨h1, h2, h3⟩, h4, h5, h6⟩ := h
  refine ⟨⟨by rw [hs.1]; exact h1, by rw [hs.2.1]; exact h2, by rw [hs.2.1]; exact h3⟩, by rw [hs.2.1]; exact h4, h5, fun i hi2 => by rw [hi]; exact h6 i hi2⟩
theorem RMr.fr {σ σ' : MS} {r : Nat} {R : List Cls} (h : RMr σ r R) (hi : ∀ b, 29 ≤ b → b ≤ 34 → sI σ' b = sI σ b) : RMr σ' r R := by
  unfold RMr RMc
  rw [hi 29 (by decide) (by decide), hi 30 (by decide) (by decide), hi 31 (by decide) (by decide), hi 32 (by decide) (by decide), hi 33 (by decide) (by decide), hi 34 (by decide) (by decide)]
  exact h
/-- rules lie behind all that stays -/
def RlB (σx : MS) : Prop := ∀ b, sR σx 44 2 = some b → 56 ≤ b
theorem Rl.fr {a : Nat} {σx σm σx' σm' : MS} (h : Rl σx σm) (hB : RlB σx) (ha : a ≤ 46) (hx : FX a σx σx') (hm : FM σm σm') : Rl σx' σm' := by
  rcases h with ⟨h1, h2⟩ | ⟨b, r, R, h1, h2, h3, h4, h5, h6⟩
  · exact Or.inl ⟨by rw [hx.1.2.2]; exact h1, by rw [hm.2.2 9 (by decide) (by decide) (by decide)]; exact h2⟩
  · have := hB b h1
    exact Or.inr ⟨b, r, R, by rw [hx.1.2.2]; exact h1, h2.fr hx.1 (hx.2 _ (by omega)), h3, by rw [hm.2.2 9 (by decide) (by decide) (by decide)]; exact h4, h5.fr (fun b h1 h2 => hm.2.1 b (by omega) (by omega) (by omega) (by omega)), h6⟩
theorem RlB.fr {σx σx' : MS} (h : RlB σx) (hx : Sm σx σx') : RlB σx' := by
  unfold RlB; rw [hx.2.2]; exact h
theorem Both.to {a : Nat} {σx σm σx' σm' : MS} {K P N : Nat} {L S S' : Row2} (h : Both a σx σm K P N L S) (hB : RlB σx) (ha : a = 35 ∨ a = 46) (hx : FX a σx σx') (hm : FM σm σm') (h1 : SX a σx' S') (h2 : SM σm' P N S') (h3 : WS P N S') : Both a σx' σm' K P N L S' :=
  ⟨h.1.fr (fun b hb => hx.2 b (by omega)), h.2.1.fr hm, h1, h2, h3, h.2.2.2.2.2.fr hB (by omega) hx hm⟩
section GG
variable {a : Nat} {K P N : Nat} {L : Row2}
/-- step (2) -/
theorem pay_loop (hW : WL K P N L) (ha : a = 35 ∨ a = 46) : ∀ (j k n : Nat) (σx σm : MS) (S : Row2), k + j = N → j < n → Both a σx σm K P N L S → RlB σx →
    ∃ σx' σm' S', b_X1_payHolders_2 a n (nI k) σx = some σx' ∧ (∀ y1, b_X12_goes_90 n y1 (nI k) σm = b_X12_goes_123 FU y1 0 σm') ∧ Both a σx' σm' K P N L S' ∧ FX a σx σx' ∧ FM σm σm' ∧ S' 0 = S 0 ∧ S' 3 = S 3
  | 0, k, n + 1, σx, σm, S, hk, _, h, _ => by
    have hN := hW.1.2.2.1
    refine ⟨σx, σm, S, ?_, fun y1 => ?_, h, FX.refl _ _, FM.refl _, rfl, rfl⟩
    · unfold b_X1_payHolders_2
      rw [h.1.1.2.2.1, q_le (by omega) (by omega), if_pos (by omega)]
    · unfold b_X12_goes_90
      rw [h.2.1.1.2.2.1, q_le (by omega) (by omega), if_pos (by omega)]
  | j + 1, k, n + 1, σx, σm, S, hk, hj, h, hB => by
    have h0 := h
    obtain ⟨hLx, hLm, hSx, hSm, hV, hR⟩ := h
    obtain ⟨⟨hK5, hP4, hN6, hf⟩, hW2, hW3, hW4⟩ := hW
    have hkk := hW4 k (by omega)
    have ehx := (hSx.1 k (by omega)).1
    have ehm := (hSm.1 k (by omega)).1
    have hh := (hV.1 k (by omega)).1
    conv => enter [1, σx', 1, σm', 1, S', 1]; unfold b_X1_payHolders_2 b_X1_payHolders_65
    conv => enter [1, σx', 1, σm', 1, S', 2, 1, y1]; unfold b_X12_goes_90 b_X12_goes_115
    rw [hLx.1.2.2.1, hLm.1.2.2.1]
    simp only [q_le (show N < 2 ^ 31 by omega) (show k < 2 ^ 31 by omega), if_neg (show ¬ N ≤ k by omega), chk_t (in_n (show k < 6 by omega) (by decide)), ix_n (show k < 2 ^ 31 by omega), ehx, ehm, q_none (show S 0 k < 2 ^ 31 by omega), nI_1]
    by_cases h0k : S 0 k = 0
    · simp only [if_pos h0k]
      exact pay_loop ⟨⟨hK5, hP4, hN6, hf⟩, hW2, hW3, hW4⟩ ha j (k + 1) n σx σm S (by omega) (by omega) h0 hB
    · have ek : sI σx 29 k = nI (L 5 k) := (hLx.2.2.2 k (by omega)).1
      have ekm : sI σm 8 k = nI (L 5 k) := (hLm.2.2.2 k (by omega)).1
      have ew := (hLx.2.1 (L 5 k) hkk.1).2
      have ewm := (hLm.2.1 (L 5 k) hkk.1).2
      have hw9 := (hW2 (L 5 k) hkk.1).2
      have ep := hSx.2.1 (S 0 k - 1) (by omega)
      have epm := hSm.2.1 (S 0 k - 1) (by omega)
      have hp9 := (hV.2.1 (S 0 k - 1) (by omega)).1
      have eI : ix (hI (S 0 k)) = S 0 k - 1 := hI_ix h0k (by omega)
      have bI : inb (hI (S 0 k)) 4 := hI_in h0k (by omega) (by decide)
      have emin : f_J9_min_7cf53 (9999 : Int32) (nI (S 2 (S 0 k - 1)) + nI (L 1 (L 5 k))) = some (nI (min 9999 (S 2 (S 0 k - 1) + L 1 (L 5 k)))) := by
        rw [nI_add]; exact x_min (a := 9999) (by decide) (by omega)
      have eearn : f_X12_earns (nI k) σm = some (wI σm 4 (S 0 k - 1) (nI (min 9999 (S 2 (S 0 k - 1) + L 1 (L 5 k))))) := by
        unfold f_X12_earns b_X12_earns_0 b_X12_earns_45
        rw [chk_t (in_n (show k < 6 by omega) (by decide)), ix_n (show k < 2 ^ 31 by omega), ehm, chk_t bI, chk_t (in_n (show k < 6 by omega) (by decide)), ekm, chk_t (in_n (show L 5 k < 5 by omega) (by decide)), eI, epm, ix_n (show L 5 k < 2 ^ 31 by omega), ewm, nI_add, q_nl_le (by omega) (by omega)]
        by_cases hm : S 2 (S 0 k - 1) + L 1 (L 5 k) ≤ 9999
        · rw [if_pos hm, chk_t bI, Nat.min_eq_right hm]
        · rw [if_neg hm, chk_t bI, Nat.min_eq_left (by omega)]; rfl
      simp only [if_neg h0k, ek, chk_t (in_n (show L 5 k < 5 by omega) (by decide)), chk_t bI, eI, ep, ix_n (show L 5 k < 2 ^ 31 by omega), ew]
      rw [emin, bnd, eearn]
      have hb' : Both a (wI σx (a + 3) (S 0 k - 1) (nI (min 9999 (S 2 (S 0 k - 1) + L 1 (L 5 k))))) (wI σm 4 (S 0 k - 1) (nI (min 9999 (S 2 (S 0 k - 1) + L 1 (L 5 k))))) K P N L (up2 S 2 (S 0 k - 1) (min 9999 (S 2 (S 0 k - 1) + L 1 (L 5 k)))) :=
        h0.to hB ha (FX.w a σx 3 (by omega) _ _) (FM.row σm _ _ (by decide)) (hSx.purs _ _ rfl) (hSm.purs _ _ rfl) (hV.purs (by omega) (by omega))
      obtain ⟨σx', σm', S', g1, g2, g3, g4, g5, g6, g7⟩ := pay_loop ⟨⟨hK5, hP4, hN6, hf⟩, hW2, hW3, hW4⟩ ha j (k + 1) n _ _ _ (by omega) (by omega) hb' (hB.fr (FX.w a σx 3 (by omega) _ _).1)
      refine ⟨σx', σm', S', g1, fun y1 => ?_, g3, (FX.w a σx 3 (by omega) _ _).trans g4, (FM.row σm _ _ (by decide)).trans g5, g6.trans (up2_rowN _ _ _ (by decide)), g7.trans (up2_rowN _ _ _ (by decide))⟩
      rw [bnd]; exact g2 y1
  | _, _, 0, _, _, _, _, hn, _, _ => absurd hn (Nat.not_lt_zero _)
end GG
end
