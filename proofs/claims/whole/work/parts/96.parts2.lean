/-! ===== pure: work, held, after ===== -/
section
section PP
variable {len : Nat} {T : Nat → Nat}
theorem m_blanks_fix (hl : len ≤ 400) (hT : ∀ i, i < len → T i < 256) {q : Nat} {σ : MS} (hq : q < 2 ^ 31) (h : TM len T σ) (e : sI σ 0 30 = nI q) (hn : len ≤ q ∨ T q ≠ 32) : f_X12_blanks σ = some σ := by
  have hF := FU_big
  obtain ⟨F, hFe⟩ : ∃ F, FU = F + 1 := ⟨FU - 1, by omega⟩
  unfold f_X12_blanks
  rw [hFe]
  unfold b_X12_blanks_0
  rw [m_sign h hl hT hq e, bnd, if_neg]
  by_cases c : q < len
  · have := hT q c
    rw [cc_in c, hI_s, nl_eq (by decide) (by omega)]
    omega
  · rw [cc_out c]; decide
/-- blanks ahead of a number are of no account -/
theorem m_pre (hl : len ≤ 400) (hT : ∀ i, i < len → T i < 256) {a p : Nat} {σx σm : MS} (L : LSy a T len p σx σm) (lo hi : Int32) : ∃ σ', f_X12_blanks σm = some σ' ∧ f_X12_amount lo hi σ' = f_X12_amount lo hi σm ∧ FR σm σ' ∧ sI σ' 0 30 = nI (skB T len p) := by
  obtain ⟨tx, tm, hp, e1, e30, e6, e31⟩ := L
  obtain ⟨σ', b1, b2, b3, b4⟩ := m_blanks hl hT (by omega) tm e30
  obtain ⟨hq1, hq2⟩ := skB_le T hp
  refine ⟨σ', b1, ?_, b2, b4⟩
  have b5 : f_X12_blanks σ' = some σ' := m_blanks_fix hl hT (by omega) (tm.fr b2) b4 (by
    by_cases c : skB T len p < len
    · exact Or.inr (skB_n T c hp)
    · left; omega)
  unfold f_X12_amount b_X12_amount_0
  rw [b1, b5]
/-! work -/
theorem part_3 (hl : len ≤ 400) (hT : ∀ i, i < len → T i < 256) {p K P N : Nat} {L S : Row2} {σx σm : MS} (Ls : LSy 16 T len p σx σm) (D : Dft 1 K P N L S σx σm) (hW : WD 1 K P N L S) (hN : N < 6) : ∃ σx' σm', f_X2_readWork σx = some σx' ∧ f_X12_duchyPart (nI 3) σm = some σm' ∧ Res T len σx σm σx' σm' := by
  have e182 : sI σm 18 2 = nI K := D.2.1.2.2.1
  have e184 : sI σm 18 4 = nI N := D.2.1.2.2.2.2
  have e42 : sI σx 4 2 = nI K := D.1.2.1.1.1
  have hK := hW.2.1.1.1
  have bk : inb (nI N) 6 := in_n hN (by decide)
  unfold f_X2_readWork b_X2_readWork_0 b_X2_readWork_33 f_X12_duchyPart b_X12_duchyPart_0 b_X12_duchyPart_169 b_X12_duchyPart_183
  rw [if_neg (show ¬ nI 3 = (0 : Int32) by decide), if_neg (show ¬ nI 3 = (1 : Int32) by decide), if_neg (show ¬ nI 3 = (2 : Int32) by decide), if_pos (show nI 3 = (3 : Int32) from rfl), e182, e184, e42, ix_n (by omega)]
  rcases num3 hl hT (l0 := 0) (h := K) (lo := 0) (hi := nI K - 1) rfl rfl (by omega) (by omega) Ls with ⟨v, p1, σx1, σm1, a1, a2, a3, a4, a5, a6, a7, _⟩ | ⟨r1, r2, f, σx1, σm1, a1, a2, a3, a4, a5, a6, a7, a8⟩
  · rw [a3, a4, bnd, bnd, chk_t bk, chk_t bk, chk_t bk]
    obtain ⟨⟨d1, ⟨⟨l1, l2, l3, l4⟩, l5, l6, l7⟩, d3⟩, ⟨d4, d5, d6, d7, d8⟩, d9, d10, d11⟩ := D
    have rx2 : ∀ b, b ≠ 16 → sI σx1 b = sI σx b := fun b hb => a5.2 b hb
    have e44 : sI σx1 4 4 = nI N := by rw [rx2 4 (by decide)]; exact l3
    have eadd : f_X3_addWork (nI v) σx1 = some (wI (wI (wI σx1 10 N (nI v)) 11 N 0) 4 4 (nI (N + 1))) := by
      unfold f_X3_addWork b_X3_addWork_0 b_X3_addWork_39
      have g1 : sI (wI σx1 10 N (nI v)) 4 4 = nI N := by rw [sI_wIn _ _ _ _ (by decide)]; exact e44
      have g2 : sI (wI (wI σx1 10 N (nI v)) 11 N 0) 4 4 = nI N := by rw [sI_wIn _ _ _ _ (by decide)]; exact g1
      rw [e44, q_ln_le (by decide) (by omega), if_neg (by omega), chk_t bk, ix_n (by omega), g1, chk_t bk, ix_n (by omega), g2, nI_1]
    have r184 : sI (wI (wI (wI σm1 25 N (nI v)) 26 N (-1)) 27 N 0) 18 4 = nI N := by rw [sI_wIn _ _ _ _ (by decide), sI_wIn _ _ _ _ (by decide), sI_wIn _ _ _ _ (by decide), a6.2.1 18 (by decide)]; exact d8
    have fx : FrX σx (wI (wI (wI σx1 10 N (nI v)) 11 N 0) 4 4 (nI (N + 1))) := a5.fx.trans ((FrX.w _ _ _ (by decide)).trans ((FrX.w _ _ _ (by decide)).trans (FrX.w _ _ _ (by decide))))
    have fm : FrM σm (wI (wI (wI (wI σm1 25 N (nI v)) 26 N (-1)) 27 N 0) 18 4 (nI (N + 1))) := a6.fm.trans ((FrM.w _ _ _ (by decide)).trans ((FrM.w _ _ _ (by decide)).trans ((FrM.w _ _ _ (by decide)).trans (FrM.w _ _ _ (by decide)))))
    refine ⟨_, _, by rw [a7.2.2.2.2.2.1, if_pos rfl, eadd]; rfl, by rw [r184, nI_1], fx, fm, Or.inl ⟨p1, K, P, N + 1, up2 (up2 L 5 N v) 6 N 0, S, ?_, ?_, ?_⟩⟩
    · refine (a7.x ?_ ?_ ?_).m ?_ ?_
      · rw [sI_wIn _ _ _ _ (by decide), sI_wIn _ _ _ _ (by decide), sI_wIn _ _ _ _ (by decide)]
      · rw [sI_wIn _ _ _ _ (by decide), sI_wIn _ _ _ _ (by decide), sI_wIn _ _ _ _ (by decide)]
      · rw [sI_wIn _ _ _ _ (by decide), sI_wIn _ _ _ _ (by decide), sI_wIn _ _ _ _ (by decide)]
      · rw [sI_wIn _ _ _ _ (by decide), sI_wIn _ _ _ _ (by decide), sI_wIn _ _ _ _ (by decide), sI_wIn _ _ _ _ (by decide)]
      · rw [sI_wIn _ _ _ _ (by decide), sI_wIn _ _ _ _ (by decide), sI_wIn _ _ _ _ (by decide), sI_wIn _ _ _ _ (by decide)]
    · have rx : ∀ b, b ≠ 4 → b ≠ 10 → b ≠ 11 → b ≠ 16 → sI (wI (wI (wI σx1 10 N (nI v)) 11 N 0) 4 4 (nI (N + 1))) b = sI σx b := fun b q1 q2 q3 q4 => by rw [sI_wIn _ _ _ _ q1, sI_wIn _ _ _ _ q3, sI_wIn _ _ _ _ q2, rx2 b q4]
      have r4 : ∀ j, sI (wI (wI (wI σx1 10 N (nI v)) 11 N 0) 4 4 (nI (N + 1))) 4 j = if j = 4 then nI (N + 1) else sI σx 4 j := fun j => by rw [sI_r, sI_wIn _ _ _ _ (by decide), sI_wIn _ _ _ _ (by decide), rx2 4 (by decide)]
      have r10 : ∀ j, sI (wI (wI (wI σx1 10 N (nI v)) 11 N 0) 4 4 (nI (N + 1))) 10 j = if j = N then nI v else sI σx 10 j := fun j => by rw [sI_wIn _ _ _ _ (by decide), sI_wIn _ _ _ _ (by decide), sI_r, rx2 10 (by decide)]
      have r11 : ∀ j, sI (wI (wI (wI σx1 10 N (nI v)) 11 N 0) 4 4 (nI (N + 1))) 11 j = if j = N then 0 else sI σx 11 j := fun j => by rw [sI_wIn _ _ _ _ (by decide), sI_r, sI_wIn _ _ _ _ (by decide), rx2 11 (by decide)]
      have rm : ∀ b, 19 ≤ b → b ≤ 24 → sI (wI (wI (wI (wI σm1 25 N (nI v)) 26 N (-1)) 27 N 0) 18 4 (nI (N + 1))) b = sI σm b := fun b q1 q2 => by rw [sI_wIn _ _ _ _ (by omega), sI_wIn _ _ _ _ (by omega), sI_wIn _ _ _ _ (by omega), sI_wIn _ _ _ _ (by omega), a6.2.1 b (by omega)]
      have r18 : ∀ j, sI (wI (wI (wI (wI σm1 25 N (nI v)) 26 N (-1)) 27 N 0) 18 4 (nI (N + 1))) 18 j = if j = 4 then nI (N + 1) else sI σm 18 j := fun j => by rw [sI_r, sI_wIn _ _ _ _ (by decide), sI_wIn _ _ _ _ (by decide), sI_wIn _ _ _ _ (by decide), a6.2.1 18 (by decide)]
      have r25 : ∀ j, sI (wI (wI (wI (wI σm1 25 N (nI v)) 26 N (-1)) 27 N 0) 18 4 (nI (N + 1))) 25 j = if j = N then nI v else sI σm 25 j := fun j => by rw [sI_wIn _ _ _ _ (by decide), sI_wIn _ _ _ _ (by decide), sI_wIn _ _ _ _ (by decide), sI_r, a6.2.1 25 (by decide)]
      have r26 : ∀ j, sI (wI (wI (wI (wI σm1 25 N (nI v)) 26 N (-1)) 27 N 0) 18 4 (nI (N + 1))) 26 j = if j = N then -1 else sI σm 26 j := fun j => by rw [sI_wIn _ _ _ _ (by decide), sI_wIn _ _ _ _ (by decide), sI_r, sI_wIn _ _ _ _ (by decide), a6.2.1 26 (by decide)]
      have r27 : ∀ j, sI (wI (wI (wI (wI σm1 25 N (nI v)) 26 N (-1)) 27 N 0) 18 4 (nI (N + 1))) 27 j = if j = N then 0 else sI σm 27 j := fun j => by rw [sI_wIn _ _ _ _ (by decide), sI_r, sI_wIn _ _ _ _ (by decide), sI_wIn _ _ _ _ (by decide), a6.2.1 27 (by decide)]
      have uL : ∀ a j, a ≠ 5 → a ≠ 6 → up2 (up2 L 5 N v) 6 N 0 a j = L a j := fun a j h1 h2 => by rw [up2_n _ _ _ _ h2, up2_n _ _ _ _ h1]
      have u5 : ∀ j, up2 (up2 L 5 N v) 6 N 0 5 j = if j = N then v else L 5 j := fun j => by rw [up2_n _ _ _ _ (by decide), up2_r]
      have u6 : ∀ j, up2 (up2 L 5 N v) 6 N 0 6 j = if j = N then 0 else L 6 j := fun j => by rw [up2_r, up2_n _ _ _ _ (by decide)]
      have s0 : S 0 N = 0 := (hW.2.2.2.1.1 N (by omega)).2 (Nat.le_refl _)
      refine ⟨⟨by rw [r4]; exact d1, ⟨⟨by rw [r4]; exact l1, by rw [r4]; exact l2, by rw [r4]; rfl, by rw [r4, uL _ _ (by decide) (by decide)]; exact l4⟩, fun k hk => ?_, fun q hq => ?_, fun w hw => ?_⟩, d3.fr (fun b q1 q2 => rx b (by omega) (by omega) (by omega) (by omega))⟩, ⟨by rw [r18, uL _ _ (by decide) (by decide)]; exact d4, by rw [r18]; exact d5, by rw [r18]; exact d6, by rw [r18]; exact d7, by rw [r18]; rfl⟩, fun k hk => ?_, fun q hq => ?_, fun w hw => ?_⟩
      · rw [rx _ (by omega) (by omega) (by omega) (by omega), rx _ (by omega) (by omega) (by omega) (by omega), uL _ _ (by decide) (by decide), uL _ _ (by decide) (by decide)]; exact l5 k hk
      · rw [rx _ (by omega) (by omega) (by omega) (by omega), rx _ (by omega) (by omega) (by omega) (by omega), rx _ (by omega) (by omega) (by omega) (by omega), uL _ _ (by decide) (by decide), uL _ _ (by decide) (by decide), uL _ _ (by decide) (by decide)]; exact l6 q hq
      · show sI _ 10 w = _ ∧ sI _ 11 w = _
        rw [r10, r11, u5, u6]
        by_cases e : w = N
        · rw [if_pos e, if_pos e, if_pos e, if_pos e]; exact ⟨rfl, rfl⟩
        · rw [if_neg e, if_neg e, if_neg e, if_neg e]; exact l7 w (by omega)
      · rw [rm _ (by omega) (by omega), rm _ (by omega) (by omega), uL _ _ (by decide) (by decide), uL _ _ (by decide) (by decide)]; exact d9 k hk
      · rw [rm _ (by omega) (by omega), rm _ (by omega) (by omega), rm _ (by omega) (by omega), rm _ (by omega) (by omega), uL _ _ (by decide) (by decide), uL _ _ (by decide) (by decide), uL _ _ (by decide) (by decide)]; exact d10 q hq
      · rw [r25, r26, r27, u5, u6]
        by_cases e : w = N
        · rw [if_pos e, if_pos e, if_pos e, if_pos e, if_pos e, e, s0]; exact ⟨rfl, rfl, rfl⟩
        · rw [if_neg e, if_neg e, if_neg e, if_neg e, if_neg e]; exact d11 w (by omega)
    · obtain ⟨w1, ⟨⟨w2, w3, w4, w5⟩, w6, w7, w8⟩, w9, ⟨s1, s2, s3, s4⟩, w10⟩ := hW
      refine ⟨w1, ⟨⟨w2, w3, by omega, w5⟩, w6, w7, fun w hw => ?_⟩, w9, ⟨fun w hw => ⟨(s1 w hw).1, fun q => (s1 w hw).2 (by omega)⟩, s2, s3, s4⟩, w10⟩
      rw [up2_n _ _ _ _ (by decide), up2_r, up2_r, up2_n _ _ _ _ (by decide)]
      by_cases e : w = N
      · rw [if_pos e, if_pos e]; exact ⟨a2, Nat.pow_pos (by decide)⟩
      · rw [if_neg e, if_neg e]
        have := w8 w (by omega)
        exact ⟨this.1, Nat.lt_of_lt_of_le this.2 (Nat.pow_le_pow_right (by decide) (by omega))⟩
  · rw [a3, a4, bnd, bnd, chk_t bk, chk_t bk, chk_t bk]
    have r184 : sI (wI (wI (wI σm1 25 N r2) 26 N (-1)) 27 N 0) 18 4 = nI N := by rw [sI_wIn _ _ _ _ (by decide), sI_wIn _ _ _ _ (by decide), sI_wIn _ _ _ _ (by decide), a6.2.1 18 (by decide)]; exact e184
    refine ⟨σx1, _, by rw [a7, q_zero (by omega), if_neg a1], by rw [r184, nI_1], a5.fx, a6.fm.trans ((FrM.w _ _ _ (by decide)).trans ((FrM.w _ _ _ (by decide)).trans ((FrM.w _ _ _ (by decide)).trans (FrM.w _ _ _ (by decide))))), Or.inr ⟨f, a1, a2, a7, a8.m ?_ ?_⟩⟩
    · rw [sI_wIn _ _ _ _ (by decide), sI_wIn _ _ _ _ (by decide), sI_wIn _ _ _ _ (by decide), sI_wIn _ _ _ _ (by decide)]
    · rw [sI_wIn _ _ _ _ (by decide), sI_wIn _ _ _ _ (by decide), sI_wIn _ _ _ _ (by decide), sI_wIn _ _ _ _ (by decide)]
/-- two numbers, and blanks that the reference skips between -/
theorem two (hl : len ≤ 400) (hT : ∀ i, i < len → T i < 256) {p h1 h2 : Nat} {hi1 hi2 : Int32} (e1 : hi1 = hI h1) (e2 : hi2 = hI h2) (hh1 : h1 ≤ 10000) (hh2 : h2 ≤ 10000) {σx σm : MS} (Ls : LSy 16 T len p σx σm) :
    ∃ r1 r2 s1 s2 σx1 σx2 σm1 σm2 σm3, f_X2_readNumber 0 hi1 σx = some (r1, σx1) ∧ f_X2_readNumber 0 hi2 σx1 = some (r2, σx2) ∧ f_X12_amount 0 hi1 σm = some (s1, σm1) ∧ f_X12_blanks σm1 = some σm2 ∧ f_X12_amount 0 hi2 σm2 = some (s2, σm3) ∧ FA 16 σx σx1 ∧ FA 16 σx σx2 ∧ FR σm σm2 ∧ FR σm σm3 ∧
      ((∃ v w q p', v < h1 ∧ w < h2 ∧ q ≤ len ∧ r1 = nI v ∧ s1 = nI v ∧ r2 = nI w ∧ s2 = nI w ∧ LSy 16 T len p' σx2 σm3 ∧ sI σx2 16 3 = nI q ∧ sI σm2 0 30 = nI q) ∨ (∃ f, f ≠ 0 ∧ f ≤ 4000 ∧ sI σx2 16 6 = nI f ∧ FltM T len f σm3)) := by
  rcases num3 hl hT (l0 := 0) (h := h1) (lo := 0) (hi := hi1) rfl e1 (by omega) hh1 Ls with ⟨v, p1, σx1, σm1, a1, a2, a3, a4, a5, a6, a7, _⟩ | ⟨r1, r2, f, σx1, σm1, a1, a2, a3, a4, a5, a6, a7, a8⟩
  · obtain ⟨σm2, m1, m2, m3, m4⟩ := m_pre hl hT a7 0 hi2
    rcases num3 hl hT (l0 := 0) (h := h2) (lo := 0) (hi := hi2) rfl e2 (by omega) hh2 a7 with ⟨w, p2, σx2, σm3, b1, b2, b3, b4, b5, b6, b7, b8⟩ | ⟨r1, r2, f, σx2, σm3, b1, b2, b3, b4, b5, b6, b7, b8⟩
    · exact ⟨_, _, _, _, σx1, σx2, σm1, σm2, σm3, a3, b3, a4, m1, by rw [m2]; exact b4, a5, a5.trans b5, a6.trans m3, a6.trans b6, Or.inl ⟨v, w, skB T len p1, p2, a2, b2, (skB_le T a7.2.2.1).2, rfl, rfl, rfl, rfl, b7, b8, m4⟩⟩
    · exact ⟨_, _, _, _, σx1, σx2, σm1, σm2, σm3, a3, b3, a4, m1, by rw [m2]; exact b4, a5, a5.trans b5, a6.trans m3, a6.trans b6, Or.inr ⟨f, b1, b2, b7, b8⟩⟩
  · obtain ⟨σm2, m1, m2, m3⟩ := a8.blanks hl hT
    obtain ⟨σm3, b1, b2, b3⟩ := m_amountF hl hT a1 a2 m3 0 hi2
    exact ⟨_, _, _, _, σx1, σx1, σm1, σm2, σm3, a3, x_numF a1 a2 a7 0 hi2, a4, m1, b1, a5, a5, a6.trans m2, a6.trans (m2.trans b2), Or.inr ⟨f, a1, a2, a7, b3⟩⟩
theorem m_newHeldBy {σ : MS} {N q : Nat} {S : Row2} (h4 : sI σ 18 4 = nI N) (hN : N ≤ 6) (h26 : ∀ w, w < N → sI σ 26 w = hI (S 0 w)) (hs : ∀ w, w < 6 → S 0 w < 2 ^ 31) (hq : q < 2 ^ 31) : ∀ (j k n : Nat), k + j = N → j < n → b_X12_newHeldBy_4 n (nI q) (nI (cntB (hb S q) k)) (nI k) σ = some (nI (cntB (hb S q) N))
  | 0, k, n + 1, hk, _ => by
    unfold b_X12_newHeldBy_4
    rw [h4, q_le (by omega) (by omega), if_pos (by omega), show k = N by omega]
  | j + 1, k, n + 1, hk, hn => by
    have ih := m_newHeldBy h4 hN h26 hs hq j (k + 1) n (by omega) (by omega)
    rw [cntB_s] at ih
    unfold b_X12_newHeldBy_4 b_X12_newHeldBy_30
    rw [h4, q_le (by omega) (by omega), if_neg (by omega), chk_t (in_n (show k < 6 by omega) (by decide)), ix_n (by omega), h26 k (by omega), q_hn (hs k (by omega)) hq]
    by_cases e : S 0 k = q + 1
    · rw [if_pos (show hb S q k = true from decide_eq_true e)] at ih
      rw [if_pos e, nI_1, nI_1, ih]
    · rw [if_neg (show ¬ hb S q k = true by simp [hb, e])] at ih
      rw [if_neg e, show nI (cntB (hb S q) k) + (0 : Int32) = nI (cntB (hb S q) k + 0) from nI_add _ 0, nI_1, ih]
  | _, _, 0, _, hn => absurd hn (Nat.not_lt_zero _)
/-! held -/
theorem part_4 (hl : len ≤ 400) (hT : ∀ i, i < len → T i < 256) {p K P N : Nat} {L S : Row2} {σx σm : MS} (Ls : LSy 16 T len p σx σm) (D : Dft 1 K P N L S σx σm) (hW : WD 1 K P N L S) : ∃ σx' σm', f_X2_readHeld σx = some σx' ∧ f_X12_duchyPart (nI 4) σm = some σm' ∧ Res T len σx σm σx' σm' := by
  have hF := FU_big
  have D0 := D
  have hV := hW.2.2.2.1
  obtain ⟨⟨hK5, hP4, hN6, hf⟩, hW2, hW3, hW4⟩ := hW.2.1
  obtain ⟨⟨d1, ⟨⟨l1, l2, l3, l4⟩, l5, l6, l7⟩, d3⟩, ⟨d4, d5, d6, d7, d8⟩, d9, d10, d11⟩ := D
  obtain ⟨r1, r2, s1, s2, σx1, σx2, σm1, σm2, σm3, a1, a2, a3, a4, a5, a6, a7, a8, a9, a10⟩ := two hl hT (h1 := N) (h2 := P) (hi1 := nI N - 1) (hi2 := nI P - 1) rfl rfl (by omega) (by omega) Ls
  have ep : f_X12_duchyPart (nI 4) σm = f_X12_readsHeld σm := by
    unfold f_X12_duchyPart b_X12_duchyPart_0 b_X12_duchyPart_183
    rw [if_neg (show ¬ nI 4 = (0 : Int32) by decide), if_neg (show ¬ nI 4 = (1 : Int32) by decide), if_neg (show ¬ nI 4 = (2 : Int32) by decide), if_neg (show ¬ nI 4 = (3 : Int32) by decide), if_pos (show nI 4 = (4 : Int32) from rfl)]
    cases f_X12_readsHeld σm <;> rfl
  have e43 : sI σx1 4 3 = nI P := by rw [a6.2 4 (by decide)]; exact l2
  have m183 : sI σm2 18 3 = nI P := by rw [a8.2.1 18 (by decide)]; exact d7
  have hxE : f_X2_readHeld σx = if sI σx2 16 6 = 0 then chk (inb r1 6) (if sI σx2 13 (ix r1) = (-1 : Int32) then (f_X8_load 12 r2 σx2).bind (fun r17 => chk (inb r2 4) (if r17 < sI σx2 9 (ix r2) then chk (inb r1 6) (some (wI σx2 13 (ix r1) r2)) else b_X2_readHeld_76 σx2)) else b_X2_readHeld_76 σx2) else some σx2 := by
    unfold f_X2_readHeld b_X2_readHeld_0
    rw [l3, a1, bnd]
    show (f_X2_readNumber 0 (sI σx1 4 3 - 1) σx1).bind _ = _
    rw [e43, a2]; rfl
  have hmE : f_X12_readsHeld σm = if sI σm3 0 31 ≤ 0 then chk (inb s1 6) (if sI σm3 26 (ix s1) = (-1 : Int32) then (f_X12_newHeldBy s2 σm3).bind (fun r19 => chk (inb s2 4) (if r19 < sI σm3 24 (ix s2) then chk (inb s1 6) (some (wI σm3 26 (ix s1) s2)) else b_X12_readsHeld_69 (sI σm2 0 30) σm3)) else b_X12_readsHeld_69 (sI σm2 0 30) σm3) else some σm3 := by
    unfold f_X12_readsHeld b_X12_readsHeld_0
    rw [d8, a3, bnd]
    show (f_X12_blanks σm1).bind _ = _
    rw [a4, bnd, m183, a5]; rfl
  rw [ep, hxE, hmE]
  rcases a10 with ⟨v, w, q, p', b1, b2, b3, b4, b5, b6, b7, b8, b9, b10⟩ | ⟨f, b1, b2, b3, b4⟩
  · have bv : inb (nI v) 6 := in_n (by omega) (by decide)
    have bw : inb (nI w) 4 := in_n (by omega) (by decide)
    have ex : sI σx2 13 v = hI (S 0 v) := by rw [a7.2 13 (by decide)]; exact (d3.1 v (by omega)).1
    have em : sI σm3 26 v = hI (S 0 v) := by rw [a9.2.1 26 (by decide)]; exact (d11 v b1).2.1
    have d3' : SX 12 σx2 S := d3.fr (fun b q1 q2 => a7.2 b (by omega))
    have el := x_load d3' (hV.hs hP4) (q := w) (by omega)
    have eh : f_X12_newHeldBy (nI w) σm3 = some (nI (cntB (hb S w) N)) := m_newHeldBy (N := N) (by rw [a9.2.1 18 (by decide)]; exact d8) hN6 (by rw [a9.2.1 26 (by decide)]; exact fun w hw => (d11 w hw).2.1) (hV.hs hP4) (by omega) N 0 FU (by omega) (by omega)
    have hc6 := (hV.hb6 hN6 w).2
    have e9 : sI σx2 9 w = nI (L 4 w) := by rw [a7.2 9 (by decide)]; exact (l6 w b2).2.2
    have e24 : sI σm3 24 w = nI (L 4 w) := by rw [a9.2.1 24 (by decide)]; exact (d10 w b2).2.2.2
    have z6 := b8.2.2.2.2.2.1
    have z31 := b8.2.2.2.2.2.2
    have h4w := (hW3 w b2).2.2
    have hcl := cntB_le (hb S w) N
    have hsv := (hV.1 v (by omega)).1
    have flt : ∃ σx' σm', b_X2_readHeld_76 σx2 = some σx' ∧ b_X12_readsHeld_69 (nI q) σm3 = some σm' ∧ Res T len σx σm σx' σm' := by
      unfold b_X2_readHeld_76 b_X12_readsHeld_69
      rw [x_fail (x := (1 : Int32)) (c := 1) (q := q) rfl z6 b9, m_fails (x := (1 : Int32)) (c := 1) (q := q) rfl rfl z31]
      exact ⟨_, _, rfl, rfl, (a7.trans (FA.w 16 _ _ _)).fx, (a9.trans (FR.w31 _ _)).fm, Or.inr ⟨1 + 8 * q + 1, by omega, by omega, sI_wIs _ _ _ _, b8.2.1.fr (FR.w31 _ _), ⟨p', by have := b8.2.2.1; omega, by rw [sI_wIk _ _ _ _ (by decide)]; exact b8.2.2.2.2.1⟩, sI_wIs _ _ _ _⟩⟩
    rw [z6, if_pos rfl, z31, if_pos (show (0 : Int32) ≤ 0 by decide), b4, b5, b6, b7, b10, chk_t bv, chk_t bv, ix_n (by omega), ex, em, q_none (by omega), q_none (by omega), el, bnd, eh, bnd, chk_t bw, chk_t bw, ix_n (by omega), e9, e24, hc6, q_lt (by omega) (by omega), q_lt (by omega) (by omega)]
    by_cases c1 : S 0 v = 0
    · rw [if_pos c1, if_pos c1]
      by_cases c2 : cntB (hb S w) N < L 4 w
      · rw [if_pos c2, if_pos c2, chk_t bv, chk_t bv]
        refine ⟨_, _, rfl, rfl, a7.fx.trans (FrX.w _ _ _ (by decide)), a9.fm.trans (FrM.w _ _ _ (by decide)), Or.inl ⟨p', K, P, N, L, up2 S 0 v (w + 1), (b8.x (sI_wIn _ _ _ _ (by decide)) (sI_wIn _ _ _ _ (by decide)) (sI_wIn _ _ _ _ (by decide))).m (sI_wIn _ _ _ _ (by decide)) (sI_wIn _ _ _ _ (by decide)), ?_, ?_⟩⟩
        · have D2 := D0.fr (σx' := σx2) (σm' := σm3) (fun b q1 q2 => a7.2 b (by omega)) (fun b q1 q2 => a9.2.1 b (by omega))
          obtain ⟨⟨k1, k2, k3⟩, ⟨k4, k5, k6⟩, k7, k8, k9⟩ := D2
          refine ⟨⟨by rw [sI_wIn _ _ _ _ (by decide)]; exact k1, k2.fr (fun b q1 q2 => sI_wIn _ _ _ _ (by omega)), k3.hold v (w + 1) (hI_s w).symm⟩, ?_, ?_, ?_, fun u hu => ?_⟩
          · rw [sI_wIn _ _ _ _ (by decide), up2_n _ _ _ _ (by decide)]; exact ⟨k4, k5, k6⟩
          · rw [sI_wIn _ _ _ _ (by decide), sI_wIn _ _ _ _ (by decide)]; exact k7
          · intro u hu
            rw [sI_wIn _ _ _ _ (by decide), sI_wIn _ _ _ _ (by decide), sI_wIn _ _ _ _ (by decide), sI_wIn _ _ _ _ (by decide), up2_n _ _ _ _ (by decide)]; exact k8 u hu
          · rw [sI_wIn _ _ _ _ (show (25 : Nat) ≠ 26 by decide), sI_wIn _ _ _ _ (show (27 : Nat) ≠ 26 by decide), sI_r, up2_r]
            by_cases e : u = v
            · rw [if_pos e, if_pos e, hI_s]; exact ⟨(k9 u hu).1, rfl, (k9 u hu).2.2⟩
            · rw [if_neg e, if_neg e]; exact k9 u hu
        · obtain ⟨w1, w2, w3, w4, w5, w6, w7⟩ := hW
          exact ⟨w1, w2, w3, w4.hold b1 (by omega) (by omega), w5, w6, w7⟩
      · rw [if_neg c2, if_neg c2, chk_t bv]; exact flt
    · rw [if_neg c1, if_neg c1, chk_t bv]; exact flt
  · rw [b3, q_zero (by omega), if_neg b1, b4.2.2, if_neg (show ¬ nI f ≤ 0 by rw [nl_le (by decide) (by omega)]; omega)]
    exact ⟨σx2, σm3, rfl, rfl, a7.fx, a9.fm, Or.inr ⟨f, b1, b2, b3, b4⟩⟩
theorem b_set_N : ∀ N, N ≤ 6 → ∀ s, s < 2 ^ N → ∀ b, b < N → set1 s b < 2 ^ N := by decide +kernel
/-! after -/
theorem part_5 (hl : len ≤ 400) (hT : ∀ i, i < len → T i < 256) {p K P N : Nat} {L S : Row2} {σx σm : MS} (Ls : LSy 16 T len p σx σm) (D : Dft 1 K P N L S σx σm) (hW : WD 1 K P N L S) : ∃ σx' σm', f_X2_readAfter σx = some σx' ∧ f_X12_duchyPart (nI 5) σm = some σm' ∧ Res T len σx σm σx' σm' := by
  have D0 := D
  obtain ⟨⟨hK5, hP4, hN6, hf⟩, hW2, hW3, hW4⟩ := hW.2.1
  obtain ⟨⟨d1, ⟨⟨l1, l2, l3, l4⟩, l5, l6, l7⟩, d3⟩, ⟨d4, d5, d6, d7, d8⟩, d9, d10, d11⟩ := D
  obtain ⟨r1, r2, s1, s2, σx1, σx2, σm1, σm2, σm3, a1, a2, a3, a4, a5, a6, a7, a8, a9, a10⟩ := two hl hT (h1 := N) (h2 := N) (hi1 := nI N - 1) (hi2 := nI N - 1) rfl rfl (by omega) (by omega) Ls
  have ep : f_X12_duchyPart (nI 5) σm = f_X12_readsAfter σm := by
    unfold f_X12_duchyPart b_X12_duchyPart_0 b_X12_duchyPart_183
    rw [if_neg (show ¬ nI 5 = (0 : Int32) by decide), if_neg (show ¬ nI 5 = (1 : Int32) by decide), if_neg (show ¬ nI 5 = (2 : Int32) by decide), if_neg (show ¬ nI 5 = (3 : Int32) by decide), if_neg (show ¬ nI 5 = (4 : Int32) by decide)]
    cases f_X12_readsAfter σm <;> rfl
  have e44 : sI σx1 4 4 = nI N := by rw [a6.2 4 (by decide)]; exact l3
  have m184 : sI σm2 18 4 = nI N := by rw [a8.2.1 18 (by decide)]; exact d8
  rw [ep]
  unfold f_X2_readAfter b_X2_readAfter_0 f_X12_readsAfter b_X12_readsAfter_0
  rw [l3, a1, bnd, e44, a2, bnd, d8, a3, bnd, a4, bnd, m184, a5, bnd]
  rcases a10 with ⟨v, w, q, p', b1, b2, b3, b4, b5, b6, b7, b8, b9, b10⟩ | ⟨f, b1, b2, b3, b4⟩
  · have bv : inb (nI v) 6 := in_n (by omega) (by decide)
    have z6 := b8.2.2.2.2.2.1
    have z31 := b8.2.2.2.2.2.2
    have h6v := (hW4 v b1).2
    have h64 : L 6 v < 64 := Nat.lt_of_lt_of_le h6v (Nat.pow_le_pow_right (n := 2) (by decide) hN6)
    have ex : sI σx2 11 v = nI (L 6 v) := by rw [a7.2 11 (by decide)]; exact (l7 v b1).2
    have em : sI σm3 27 v = nI (L 6 v) := by rw [a9.2.1 27 (by decide)]; exact (d11 v b1).2.2
    show ∃ σx' σm', (if sI σx2 16 6 = 0 then (if r1 = r2 then _ else _) else _) = some σx' ∧ (if sI σm3 0 31 = 0 then (if s1 = s2 then _ else _) else _) = some σm' ∧ _
    rw [z6, if_pos rfl, z31, if_pos rfl, b4, b5, b6, b7, b10, q_eq (by omega) (by omega), q_eq (by omega) (by omega)]
    by_cases c : v = w
    · rw [if_pos c, if_pos c, x_fail (x := (1 : Int32)) (c := 1) (q := q) rfl z6 b9, m_fails (x := (1 : Int32)) (c := 1) (q := q) rfl rfl z31, bnd, bnd]
      unfold b_X12_readsAfter_55 b_X12_readsAfter_74
      rw [sI_wIs, q_zero (by omega), if_neg (by omega)]
      exact ⟨_, _, rfl, rfl, (a7.trans (FA.w 16 _ _ _)).fx, (a9.trans (FR.w31 _ _)).fm, Or.inr ⟨1 + 8 * q + 1, by omega, by omega, sI_wIs _ _ _ _, b8.2.1.fr (FR.w31 _ _), ⟨p', by have := b8.2.2.1; omega, by rw [sI_wIk _ _ _ _ (by decide)]; exact b8.2.2.2.2.1⟩, sI_wIs _ _ _ _⟩⟩
    · rw [if_neg c, if_neg c, chk_t bv, chk_t bv, ix_n (by omega), ex, b_set _ h64 w (by omega)]
      unfold b_X12_readsAfter_55 b_X12_readsAfter_74
      rw [if_pos z31, chk_t bv, chk_t bv, ix_n (by omega), em, b_set _ h64 w (by omega)]
      refine ⟨_, _, rfl, rfl, a7.fx.trans (FrX.w _ _ _ (by decide)), a9.fm.trans (FrM.w _ _ _ (by decide)), Or.inl ⟨p', K, P, N, up2 L 6 v (set1 (L 6 v) w), S, (b8.x (sI_wIn _ _ _ _ (by decide)) (sI_wIn _ _ _ _ (by decide)) (sI_wIn _ _ _ _ (by decide))).m (sI_wIn _ _ _ _ (by decide)) (sI_wIn _ _ _ _ (by decide)), ?_, ?_⟩⟩
      · have D2 := D0.fr (σx' := σx2) (σm' := σm3) (fun b q1 q2 => a7.2 b (by omega)) (fun b q1 q2 => a9.2.1 b (by omega))
        obtain ⟨⟨k1, ⟨⟨m1, m2, m3, m4⟩, m5, m6, m7⟩, k3⟩, ⟨k4, k5, k6⟩, k7, k8, k9⟩ := D2
        have uL : ∀ a j, a ≠ 6 → up2 L 6 v (set1 (L 6 v) w) a j = L a j := fun a j h => up2_n _ _ _ _ h
        refine ⟨⟨by rw [sI_wIn _ _ _ _ (by decide)]; exact k1, ⟨?_, fun k hk => ?_, fun u hu => ?_, fun u hu => ?_⟩, k3.fr (fun b q1 q2 => sI_wIn _ _ _ _ (by omega))⟩, ?_, fun k hk => ?_, fun u hu => ?_, fun u hu => ?_⟩
        · rw [sI_wIn _ _ _ _ (by decide), uL _ _ (by decide)]; exact ⟨m1, m2, m3, m4⟩
        · rw [sI_wIn _ _ _ _ (by decide), sI_wIn _ _ _ _ (by decide), uL _ _ (by decide), uL _ _ (by decide)]; exact m5 k hk
        · rw [sI_wIn _ _ _ _ (by decide), sI_wIn _ _ _ _ (by decide), sI_wIn _ _ _ _ (by decide), uL _ _ (by decide), uL _ _ (by decide), uL _ _ (by decide)]; exact m6 u hu
        · show sI _ 10 u = _ ∧ sI _ 11 u = _
          rw [sI_wIn _ _ _ _ (by decide), sI_r, uL _ _ (by decide), up2_r]
          by_cases e : u = v
          · rw [if_pos e, if_pos e]; exact ⟨(m7 u hu).1, rfl⟩
          · rw [if_neg e, if_neg e]; exact m7 u hu
        · rw [sI_wIn _ _ _ _ (by decide), uL _ _ (by decide)]; exact ⟨k4, k5, k6⟩
        · rw [sI_wIn _ _ _ _ (by decide), sI_wIn _ _ _ _ (by decide), uL _ _ (by decide), uL _ _ (by decide)]; exact k7 k hk
        · rw [sI_wIn _ _ _ _ (by decide), sI_wIn _ _ _ _ (by decide), sI_wIn _ _ _ _ (by decide), sI_wIn _ _ _ _ (by decide), uL _ _ (by decide), uL _ _ (by decide), uL _ _ (by decide)]; exact k8 u hu
        · rw [sI_wIn _ _ _ _ (by decide), sI_wIn _ _ _ _ (by decide), sI_r, uL _ _ (by decide), up2_r]
          by_cases e : u = v
          · rw [if_pos e, if_pos e]; exact ⟨(k9 u hu).1, (k9 u hu).2.1, rfl⟩
          · rw [if_neg e, if_neg e]; exact k9 u hu
      · obtain ⟨w1, ⟨⟨w2, w3, w4, w5⟩, w6, w7, w8⟩, w9, w10⟩ := hW
        refine ⟨w1, ⟨⟨w2, w3, w4, w5⟩, w6, w7, fun u hu => ?_⟩, w9, w10⟩
        rw [up2_n _ _ _ _ (by decide), up2_r]
        by_cases e : u = v
        · rw [if_pos e]; exact ⟨(w8 u hu).1, b_set_N N hN6 _ h6v w b2⟩
        · rw [if_neg e]; exact w8 u hu
  · show ∃ σx' σm', (if sI σx2 16 6 = 0 then _ else some σx2) = some σx' ∧ (if sI σm3 0 31 = 0 then _ else b_X12_readsAfter_55 s1 s2 σm3) = some σm' ∧ _
    unfold b_X12_readsAfter_55 b_X12_readsAfter_74
    rw [b3, q_zero (by omega), if_neg b1, b4.2.2, q_zero (by omega), if_neg b1, q_zero (by omega), if_neg b1]
    exact ⟨σx2, σm3, rfl, rfl, a7.fx, a9.fm, Or.inr ⟨f, b1, b2, b3, b4⟩⟩
end PP
end
