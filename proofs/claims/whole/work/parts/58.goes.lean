/-! ===== pure: the clerk, and the whole hour ===== -/
section
theorem up2_over (S : Row2) (s p v c t : Nat) : up2 (up2 (up2 (up2 S 3 3 s) 2 p v) 3 4 c) 3 3 t = up2 (up2 (up2 S 2 p v) 3 4 c) 3 3 t := by
  funext r j
  by_cases h : r = 3
  · subst h; by_cases h2 : j = 3 <;> simp [up2, h2]
  · simp [up2, h]
theorem x_pay {a : Nat} {σ : MS} {S : Row2} (hS : SX a σ S) {h v : Nat} (h0 : h ≠ 0) (hh : h ≤ 4) (hv : v ≤ S 2 (h - 1)) (hc : S 3 4 + v < 2 ^ 31) : ∃ σ', f_X8_payIntoChest a (hI h) (nI v) σ = some σ' ∧ SX a σ' (up2 (up2 S 2 (h - 1) (S 2 (h - 1) - v)) 3 4 (min 99999 (S 3 4 + v))) ∧ FX a σ σ' := by
  have e1 := hS.2.1 (h - 1) (by omega)
  have hS1 := hS.purs (h - 1) (S 2 (h - 1) - v) (x := nI (S 2 (h - 1)) - nI v) (pk_sub hv)
  have e4 : sI (wI σ (a + 3) (h - 1) (nI (S 2 (h - 1)) - nI v)) a 4 = nI (S 3 4) := by rw [sI_wIn _ _ _ _ (by omega)]; exact hS.2.2.2.1
  refine ⟨wI (wI σ (a + 3) (h - 1) (nI (S 2 (h - 1)) - nI v)) a 4 (nI (min 99999 (S 3 4 + v))), ?_, hS1.fld 4 _ rfl, (FX.w a σ 3 (by omega) _ _).trans (FX.w0 a _ _ _)⟩
  unfold f_X8_payIntoChest b_X8_payIntoChest_0
  have bI : inb (hI h) 4 := hI_in h0 hh (by decide)
  have emin : f_J9_min_7cf53 (99999 : Int32) (nI (S 3 4 + v)) = some (nI (min 99999 (S 3 4 + v))) := x_min (a := 99999) (by decide) (by omega)
  rw [chk_t bI, chk_t bI, hI_ix h0 (by omega), e1, e4, nI_add, emin, bnd]
theorem m_into {σ : MS} {c v : Nat} (hc : sI σ 1 1 = nI c) (h : c + v < 2 ^ 31) : f_X12_into (nI v) σ = some (nI (min 99999 (c + v))) := by
  unfold f_X12_into b_X12_into_0 b_X12_into_26
  rw [hc, nI_add, q_nl_le (by omega) (by omega)]
  by_cases hm : c + v ≤ 99999
  · rw [if_pos hm, Nat.min_eq_right hm]
  · rw [if_neg hm, Nat.min_eq_left (by omega)]; rfl
theorem m_fines {σ : MS} {K P N : Nat} {L S : Row2} (hL : LM σ K P N L) (hW : WL K P N L) (hS : SM σ P N S) (hV1 : ∀ p, p < 4 → S 2 p ≤ 9999) (hc : S 3 4 ≤ 99999) (h64 : S 3 3 < 64) {k : Nat} (hk : k < N) (h0 : S 0 k ≠ 0) (hh : S 0 k ≤ P) : ∃ σ', f_X12_fines (nI k) σ = some σ' ∧ SM σ' P N (up2 (up2 (up2 S 2 (S 0 k - 1) (S 2 (S 0 k - 1) - min (L 7 0) (S 2 (S 0 k - 1)))) 3 4 (min 99999 (S 3 4 + min (L 7 0) (S 2 (S 0 k - 1))))) 3 3 (clr (S 3 3) k)) ∧ FM σ σ' := by
  obtain ⟨⟨hK5, hP4, hN6, hf⟩, hW2, hW3, hW4⟩ := hW
  have ehm := (hS.1 k hk).1
  have ep := hS.2.1 (S 0 k - 1) (by omega)
  have hp := hV1 (S 0 k - 1) (by omega)
  have bI : inb (hI (S 0 k)) 4 := hI_in h0 (by omega) (by decide)
  have iI : ix (hI (S 0 k)) = S 0 k - 1 := hI_ix h0 (by omega)
  have body : ∀ v, v ≤ S 2 (S 0 k - 1) → v ≤ 99 → ∃ σ', b_X12_fines_37 (nI k) (hI (S 0 k)) (nI v) σ = some σ' ∧ SM σ' P N (up2 (up2 (up2 S 2 (S 0 k - 1) (S 2 (S 0 k - 1) - v)) 3 4 (min 99999 (S 3 4 + v))) 3 3 (clr (S 3 3) k)) ∧ FM σ σ' := fun v hv hv9 => by
    have hS1 := hS.purs (S 0 k - 1) (S 2 (S 0 k - 1) - v) (x := nI (S 2 (S 0 k - 1)) - nI v) (pk_sub hv)
    have e1 : sI (wI σ 4 (S 0 k - 1) (nI (S 2 (S 0 k - 1)) - nI v)) 1 1 = nI (S 3 4) := by rw [sI_wIn _ _ _ _ (by decide)]; exact hS.2.2.2.1
    have hS2 := hS1.chst (min 99999 (S 3 4 + v)) rfl
    have e6 : sI (wI (wI σ 4 (S 0 k - 1) (nI (S 2 (S 0 k - 1)) - nI v)) 1 1 (nI (min 99999 (S 3 4 + v)))) 1 6 = nI (S 3 3) := by
      rw [sI_wIk _ _ _ _ (by decide), sI_wIn _ _ _ _ (by decide)]; exact hS.2.2.1
    refine ⟨_, ?_, hS2.snk (clr (S 3 3) k) rfl, ((FM.row σ _ _ (by decide)).trans (FM.fld _ _ (by decide))).trans (FM.fld _ _ (by decide))⟩
    unfold b_X12_fines_37 b_X12_fines_74
    rw [chk_t bI, chk_t bI, iI, ep, m_into e1 (by omega), bnd, e6, b_clr _ h64 k (by omega)]
  unfold f_X12_fines b_X12_fines_0
  rw [chk_t (in_n (show k < 6 by omega) (by decide)), ix_n (show k < 2 ^ 31 by omega), ehm, chk_t bI, iI, ep, hL.1.2.2.2, q_le (by omega) (by omega)]
  by_cases hm : L 7 0 ≤ S 2 (S 0 k - 1)
  · rw [if_pos hm, Nat.min_eq_left hm]
    exact body _ hm hf
  · rw [if_neg hm, chk_t bI, Nat.min_eq_right (by omega)]
    exact body _ (Nat.le_refl _) (by omega)
section GG
variable {a : Nat} {K P N : Nat} {L : Row2}
theorem clerk_loop (hW : WL K P N L) (ha : a = 35 ∨ a = 46) : ∀ (j k n : Nat) (σx σm : MS) (S : Row2) (s : Nat), k + j = N → j < n → LH σx K P N L → LM σm K P N L → SX a σx S → SM σm P N (up2 S 3 3 s) → WS P N S → s < 64 → (∀ i, i < 6 → bt s i = if i < k then 0 else bt (S 3 3) i) → S 3 5 % 24 = 0 →
    ∃ σx' σm' S', b_X1_sendClerk_2 a n (nI k) σx = some σx' ∧ (∀ y1, b_X12_goes_123 n y1 (nI k) σm = b_X12_goes_170 y1 σm') ∧ SX a σx' S' ∧ SM σm' P N S' ∧ WS P N S' ∧ FX a σx σx' ∧ FM σm σm' ∧ S' 0 = S 0 ∧ S' 3 5 = S 3 5
  | 0, k, n + 1, σx, σm, S, s, hk, _, hLx, hLm, hSx, hSm, hV, hs, hb, _ => by
    have hN := hW.1.2.2.1
    have hs0 : s = 0 := b_zero s hs (fun w hw => by
      rw [hb w hw]
      split
      · rfl
      · exact hV.2.2.1.2 w hw ((hV.1 w hw).2 (by omega)))
    subst hs0
    refine ⟨wI σx a 3 (nI 0), σm, up2 S 3 3 0, ?_, fun y1 => ?_, hSx.fld 3 0 rfl, hSm, hV.snk (by decide) (fun w _ _ => by simp [bt]), FX.w0 _ _ _ _, FM.refl _, up2_rowN _ _ _ (by decide), up2_k _ _ _ (by decide)⟩
    · unfold b_X1_sendClerk_2
      rw [hLx.1.2.2.1, q_le (by omega) (by omega), if_pos (by omega)]
      rfl
    · unfold b_X12_goes_123
      rw [hLm.1.2.2.1, q_le (by omega) (by omega), if_pos (by omega)]
  | j + 1, k, n + 1, σx, σm, S, s, hk, hj, hLx, hLm, hSx, hSm, hV, hs, hb, h24 => by
    have hW0 := hW
    obtain ⟨⟨hK5, hP4, hN6, hf⟩, hW2, hW3, hW4⟩ := hW
    have ehx := (hSx.1 k (by omega)).1
    have hh := (hV.1 k (by omega)).1
    have h6 : sI σm 1 6 = nI s := by rw [hSm.2.2.1, up2_s]
    have h5 : sI σm 1 5 = nI (S 3 5) := by rw [hSm.2.2.2.2, up2_k _ _ _ (by decide)]
    have hbk : bt s k = bt (S 3 3) k := by rw [hb k (by omega), if_neg (by omega)]
    have h35 := hV.2.2.2.2
    have hrem : nI (S 3 5) - nI (S 3 5) / 24 * 24 = 0 := by rw [nl_rem (by omega) (by decide) (by decide), h24]; rfl
    have ebit : f_X8_sneakedBit a (nI k) σx = some (nI (bt (S 3 3) k)) := by
      unfold f_X8_sneakedBit b_X8_sneakedBit_0
      rw [hSx.2.2.1, b_get _ hV.2.2.1.1 k (by omega)]
    have hb01 := bt_lt (S 3 3) k
    conv => enter [1, σx', 1, σm', 1, S', 1]; unfold b_X1_sendClerk_2 b_X1_sendClerk_54
    conv => enter [1, σx', 1, σm', 1, S', 2, 1, y1]; unfold b_X12_goes_123 b_X12_goes_164
    rw [hLx.1.2.2.1, hLm.1.2.2.1]
    simp only [q_le (show N < 2 ^ 31 by omega) (show k < 2 ^ 31 by omega), if_neg (show ¬ N ≤ k by omega), chk_t (in_n (show k < 6 by omega) (by decide)), ix_n (show k < 2 ^ 31 by omega), ehx, q_none (show S 0 k < 2 ^ 31 by omega), nI_1, h5, if_pos hrem, h6]
    rw [m_has hs (show k < 6 by omega), hbk, ebit, bnd]
    rcases (by omega : bt (S 3 3) k = 0 ∨ bt (S 3 3) k = 1) with hz | hz
    · obtain ⟨σx', σm', S', g1, g2, g3⟩ := clerk_loop hW0 ha j (k + 1) n σx σm S s (by omega) (by omega) hLx hLm hSx hSm hV hs (fun i hi => by
        rw [hb i hi]
        by_cases h1 : i < k
        · rw [if_pos h1, if_pos (by omega)]
        · by_cases h2 : i = k
          · subst h2; rw [if_neg h1, if_pos (by omega), hz]
          · rw [if_neg h1, if_neg (by omega)]) h24
      refine ⟨σx', σm', S', ?_, fun y1 => ?_, g3⟩
      · rw [hz, if_pos (show nI 0 = 0 from rfl), ite_self]; exact g1
      · rw [hz, bnd, if_pos (show nI 0 = 0 from rfl)]; exact g2 y1
    · have h0k : S 0 k ≠ 0 := fun h => by have := hV.2.2.1.2 k (by omega) h; omega
      have bI : inb (hI (S 0 k)) 4 := hI_in h0k (by omega) (by decide)
      have iI : ix (hI (S 0 k)) = S 0 k - 1 := hI_ix h0k (by omega)
      have ep := hSx.2.1 (S 0 k - 1) (by omega)
      have hp9 := (hV.2.1 (S 0 k - 1) (by omega)).1
      have hc9 := hV.2.2.2.1
      have emin : f_J9_min_7cf53 (nI (L 7 0)) (nI (S 2 (S 0 k - 1))) = some (nI (min (L 7 0) (S 2 (S 0 k - 1)))) := x_min (by omega) (by omega)
      obtain ⟨σx1, q1, q2, q3⟩ := x_pay hSx h0k (by omega) (show min (L 7 0) (S 2 (S 0 k - 1)) ≤ S 2 (S 0 k - 1) from Nat.min_le_right _ _) (by omega)
      have e0 : (up2 S 3 3 s) 0 k = S 0 k := up2_n _ _ _ _ (by decide)
      have e2 : (up2 S 3 3 s) 2 = S 2 := up2_rowN _ _ _ (by decide)
      have e34 : (up2 S 3 3 s) 3 4 = S 3 4 := up2_k _ _ _ (by decide)
      have e33 : (up2 S 3 3 s) 3 3 = s := up2_s _ _ _ _
      obtain ⟨σm1, r1, r2, r3⟩ := m_fines hLm hW0 hSm (fun p hp => by rw [e2]; exact (hV.2.1 p hp).1) (by rw [e34]; exact hc9) (by rw [e33]; exact hs) (show k < N by omega) (by rw [e0]; exact h0k) (by rw [e0]; exact hh)
      rw [e0, e2, e34, e33, up2_over] at r2
      have hV1 : WS P N (up2 (up2 S 2 (S 0 k - 1) (S 2 (S 0 k - 1) - min (L 7 0) (S 2 (S 0 k - 1)))) 3 4 (min 99999 (S 3 4 + min (L 7 0) (S 2 (S 0 k - 1))))) := (hV.purs (by omega) (by omega)).chst (by omega)
      have f33 : ∀ x y p, (up2 (up2 S 2 p x) 3 4 y) 3 3 = S 3 3 := fun x y p => by rw [up2_k _ _ _ (by decide), up2_n _ _ _ _ (by decide)]
      have f35 : ∀ x y p, (up2 (up2 S 2 p x) 3 4 y) 3 5 = S 3 5 := fun x y p => by rw [up2_k _ _ _ (by decide), up2_n _ _ _ _ (by decide)]
      have f0 : ∀ x y p, (up2 (up2 S 2 p x) 3 4 y) 0 = S 0 := fun x y p => by rw [up2_rowN _ _ _ (by decide), up2_rowN _ _ _ (by decide)]
      obtain ⟨σx', σm', S', g1, g2, g3, g4, g5, g6, g7, g8, g9⟩ := clerk_loop hW0 ha j (k + 1) n σx1 σm1 _ (clr s k) (by omega) (by omega) (hLx.fr (fun b hb => q3.2 b (by omega))) (hLm.fr r3) q2 r2 hV1 (b_clr_lt s hs k (by omega)) (fun i hi => by
        rw [b_clr_bt s hs k (by omega) i hi, f33, hb i hi]
        by_cases h2 : i = k
        · rw [if_pos h2, if_pos (by omega)]
        · rw [if_neg h2]
          by_cases h1 : i < k
          · rw [if_pos h1, if_pos (by omega)]
          · rw [if_neg h1, if_neg (by omega)]) (by rw [f35]; exact h24)
      refine ⟨σx', σm', S', ?_, fun y1 => ?_, g3, g4, g5, q3.trans g6, r3.trans g7, g8.trans (f0 _ _ _), g9.trans (f35 _ _ _)⟩
      · rw [if_neg h0k, hz, if_neg (show ¬ nI 1 = 0 by decide), chk_t bI, iI, ep, hLx.1.2.2.2, emin, bnd, q1, bnd]
        exact g1
      · rw [hz, bnd, if_neg (show ¬ nI 1 = 0 by decide), r1, bnd]
        exact g2 y1
  | _, _, 0, _, _, _, _, _, hn, _, _, _, _, _, _, _, _ => absurd hn (Nat.not_lt_zero _)
theorem hour_tail (hW : WL K P N L) (ha : a = 35 ∨ a = 46) {σx σm : MS} {S : Row2} (h : Both a σx σm K P N L S) (hB : RlB σx) (hh : S 3 5 < 3000) :
    ∃ σx' σm' S', (∀ y2, (f_X1_payHolders a σx).bind (fun r16 => (if ((sI r16 a 5) - (sI r16 a 5) / (24 : Int32) * (24 : Int32)) = 0 then (f_X1_sendClerk a r16).bind (fun r18 => (b_X1_passHour_117 a (y2) r18)) else (b_X1_passHour_117 a (y2) r16))) = some (y2, σx')) ∧ (∀ y1, b_X12_goes_90 FU y1 0 σm = some (y1, σm')) ∧ Both a σx' σm' K P N L S' ∧ FX a σx σx' ∧ FM σm σm' ∧ S' 0 = S 0 ∧ S' 3 5 = S 3 5 + 1 := by
  have hF := FU_big
  have hN := hW.1.2.2.1
  obtain ⟨σx1, σm1, S1, g1, g2, g3, g4, g5, g6, g7⟩ := pay_loop hW ha N 0 FU σx σm S (by omega) (by omega) h hB
  have g1' : f_X1_payHolders a σx = some σx1 := g1
  have h35 : S1 3 5 = S 3 5 := by rw [g7]
  have ex5 : sI σx1 a 5 = nI (S1 3 5) := g3.2.2.1.2.2.2.2
  have em5 : sI σm1 1 5 = nI (S1 3 5) := g3.2.2.2.1.2.2.2.2
  have last : ∀ (σx2 σm2 : MS) (S2 : Row2), SX a σx2 S2 → SM σm2 P N S2 → WS P N S2 → FX a σx1 σx2 → FM σm1 σm2 → S2 0 = S1 0 → S2 3 5 = S1 3 5 → ∃ σx' σm' S', (∀ y2, b_X1_passHour_117 a y2 σx2 = some (y2, σx')) ∧ (∀ y1, b_X12_goes_170 y1 σm2 = some (y1, σm')) ∧ Both a σx' σm' K P N L S' ∧ FX a σx σx' ∧ FM σm σm' ∧ S' 0 = S 0 ∧ S' 3 5 = S 3 5 + 1 := fun σx2 σm2 S2 k1 k2 k3 k4 k5 k6 k7 => by
    have e5 : sI σx2 a 5 = nI (S2 3 5) := k1.2.2.2.2
    have e5m : sI σm2 1 5 = nI (S2 3 5) := k2.2.2.2.2
    refine ⟨wI σx2 a 5 (nI (S2 3 5 + 1)), wI σm2 1 5 (nI (S2 3 5 + 1)), up2 S2 3 5 (S2 3 5 + 1), fun y2 => ?_, fun y1 => ?_, ?_, (g4.trans k4).trans (FX.w0 _ _ _ _), (g5.trans k5).trans (FM.fld _ _ (by decide)), ?_, ?_⟩
    · unfold b_X1_passHour_117
      rw [e5, nI_1]
    · unfold b_X12_goes_170
      rw [e5m, nI_1]
    · exact g3.to (hB.fr g4.1) ha (k4.trans (FX.w0 _ _ _ _)) (k5.trans (FM.fld _ _ (by decide))) (k1.fld 5 _ rfl) (k2.hr _ rfl) (k3.hr (by omega))
    · rw [up2_rowN _ _ _ (by decide), k6, g6]
    · rw [up2_s, k7, h35]
  have hrem : nI (S1 3 5) - nI (S1 3 5) / 24 * 24 = nI (S1 3 5 % 24) := nl_rem (by omega) (by decide) (by decide)
  by_cases h24 : S1 3 5 % 24 = 0
  · have e33 : up2 S1 3 3 (S1 3 3) = S1 := by
      funext r j
      by_cases hr : r = 3
      · subst hr; by_cases hj : j = 3
        · subst hj; simp [up2]
        · simp [up2, hj]
      · simp [up2, hr]
    obtain ⟨σx2, σm2, S2, k1, k2, k3, k4, k5, k6, k7, k8, k9⟩ := clerk_loop hW ha N 0 FU σx1 σm1 S1 (S1 3 3) (by omega) (by omega) g3.1 g3.2.1 g3.2.2.1 (by rw [e33]; exact g3.2.2.2.1) g3.2.2.2.2.1 g3.2.2.2.2.1.2.2.1.1 (fun i hi => by rw [if_neg (by omega)]) h24
    obtain ⟨σx', σm', S', l1, l2, l3⟩ := last σx2 σm2 S2 k3 k4 k5 k6 k7 k8 k9
    refine ⟨σx', σm', S', fun y2 => ?_, fun y1 => ?_, l3⟩
    · rw [g1', bnd, ex5, hrem, h24, if_pos (show nI 0 = 0 from rfl)]
      have k1' : f_X1_sendClerk a σx1 = some σx2 := k1
      rw [k1', bnd]
      exact l1 y2
    · have g2' : b_X12_goes_90 FU y1 0 σm = b_X12_goes_123 FU y1 0 σm1 := g2 y1
      have k2' : b_X12_goes_123 FU y1 0 σm1 = b_X12_goes_170 y1 σm2 := k2 y1
      rw [g2', k2']; exact l2 y1
  · obtain ⟨σx', σm', S', l1, l2, l3⟩ := last σx1 σm1 S1 g3.2.2.1 g3.2.2.2.1 g3.2.2.2.2.1 (FX.refl _ _) (FM.refl _) rfl rfl
    refine ⟨σx', σm', S', fun y2 => ?_, fun y1 => ?_, l3⟩
    · rw [g1', bnd, ex5, hrem, q_zero (by omega), if_neg h24]
      exact l1 y2
    · have g2' : b_X12_goes_90 FU y1 0 σm = b_X12_goes_123 FU y1 0 σm1 := g2 y1
      rw [g2']
      obtain ⟨m, hm⟩ : ∃ m, FU = m + 1 := ⟨FU - 1, by omega⟩
      rw [hm]
      unfold b_X12_goes_123
      have e0 : (if sI σm1 1 4 ≤ 0 then b_X12_goes_170 y1 σm1 else b_X12_goes_170 y1 σm1) = b_X12_goes_170 y1 σm1 := ite_self _
      rw [em5, hrem, if_neg (show ¬ nI (S1 3 5 % 24) = 0 from fun e => h24 ((n_zero (by omega)).mp e)), e0]
      exact l2 y1
/-- an hour, on both sides -/
theorem hour_loop (hW : WL K P N L) (ha : a = 35 ∨ a = 46) (S0 : Row2) : ∀ (j k n m : Nat) (σx σm : MS) (S : Row2), k + j = N → j < n → m < 2 ^ k → Both a σx σm K P N L S → RlB σx → S 3 5 < 3000 → (∀ w, w < 6 → k ≤ w → S 0 w = S0 0 w) → (∀ w, w < k → S0 0 w ≠ 0 → (bt m w = 1 ↔ S 0 w = 0)) → (∀ w, w < k → S0 0 w = 0 → S 0 w = 0) →
    ∃ m' σx' σm' S', b_X1_passHour_4 a n (nI m) (nI k) σx = some (nI m', σx') ∧ b_X12_goes_4 n (nI (pc m)) (nI k) σm = some (nI (pc m'), σm') ∧ m' < 64 ∧ Both a σx' σm' K P N L S' ∧ FX a σx σx' ∧ FM σm σm' ∧ S' 3 5 = S 3 5 + 1 ∧ (∀ w, w < N → S0 0 w ≠ 0 → (bt m' w = 1 ↔ S' 0 w = 0)) ∧ (∀ w, w < N → S0 0 w = 0 → S' 0 w = 0)
  | 0, k, n + 1, m, σx, σm, S, hk, _, hm, h, hB, hh, i1, i2, i3 => by
    have hN := hW.1.2.2.1
    obtain ⟨σx', σm', S', g1, g2, g3, g4, g5, g6, g7⟩ := hour_tail hW ha h hB hh
    refine ⟨m, σx', σm', S', ?_, ?_, Nat.lt_of_lt_of_le hm (Nat.pow_le_pow_right (n := 2) (by decide) (show k ≤ 6 by omega)), g3, g4, g5, g7, fun w hw h0 => ?_, fun w hw h0 => ?_⟩
    · unfold b_X1_passHour_4
      rw [h.1.1.2.2.1, q_le (by omega) (by omega), if_pos (by omega)]
      exact g1 _
    · unfold b_X12_goes_4
      rw [h.2.1.1.2.2.1, q_le (by omega) (by omega), if_pos (by omega)]
      exact g2 _
    · rw [g6]; exact i2 w (by omega) h0
    · rw [g6]; exact i3 w (by omega) h0
  | j + 1, k, n + 1, m, σx, σm, S, hk, hj, hm, h, hB, hh, i1, i2, i3 => by
    have hW0 := hW
    have h0 := h
    obtain ⟨hLx, hLm, hSx, hSm, hV, hR⟩ := h
    obtain ⟨⟨hK5, hP4, hN6, hf⟩, hW2, hW3, hW4⟩ := hW
    have ehx := (hSx.1 k (by omega)).1
    have ehm := (hSm.1 k (by omega)).1
    have hhk := (hV.1 k (by omega)).1
    have hm2 : m < 2 ^ (k + 1) := by rw [Nat.pow_succ]; omega
    have skip : (∀ w, w < k + 1 → S0 0 w ≠ 0 → (bt m w = 1 ↔ S 0 w = 0)) → (∀ w, w < k + 1 → S0 0 w = 0 → S 0 w = 0) → ∃ m' σx' σm' S', b_X1_passHour_4 a n (nI m) (nI (k + 1)) σx = some (nI m', σx') ∧ b_X12_goes_4 n (nI (pc m)) (nI (k + 1)) σm = some (nI (pc m'), σm') ∧ m' < 64 ∧ Both a σx' σm' K P N L S' ∧ FX a σx σx' ∧ FM σm σm' ∧ S' 3 5 = S 3 5 + 1 ∧ (∀ w, w < N → S0 0 w ≠ 0 → (bt m' w = 1 ↔ S' 0 w = 0)) ∧ (∀ w, w < N → S0 0 w = 0 → S' 0 w = 0) := fun q1 q2 =>
      hour_loop hW0 ha S0 j (k + 1) n m σx σm S (by omega) (by omega) hm2 h0 hB hh (fun w hw hk2 => i1 w hw (by omega)) q1 q2
    have hbk0 : bt m k = 0 := b_hi k (by omega) m hm k (by omega) (Nat.le_refl _)
    conv => enter [1, m', 1, σx', 1, σm', 1, S', 1]; unfold b_X1_passHour_4 b_X1_passHour_91
    conv => enter [1, m', 1, σx', 1, σm', 1, S', 2, 1]; unfold b_X12_goes_4 b_X12_goes_82
    rw [hLx.1.2.2.1, hLm.1.2.2.1]
    simp only [q_le (show N < 2 ^ 31 by omega) (show k < 2 ^ 31 by omega), if_neg (show ¬ N ≤ k by omega), chk_t (in_n (show k < 6 by omega) (by decide)), ix_n (show k < 2 ^ 31 by omega), ehx, ehm, q_none (show S 0 k < 2 ^ 31 by omega), nI_1]
    by_cases h0k : S 0 k = 0
    · simp only [if_pos h0k]
      refine skip (fun w hw hw0 => ?_) (fun w hw hw0 => ?_)
      · by_cases e : w = k
        · subst e
          exact absurd (by rw [← i1 w (by omega) (Nat.le_refl _)]; exact h0k) hw0
        · exact i2 w (by omega) hw0
      · by_cases e : w = k
        · subst e; exact h0k
        · exact i3 w (by omega) hw0
    · have hp : S 0 k - 1 < P := by omega
      have exh : sI σx a 5 = nI (S 3 5) := hSx.2.2.2.2
      have emh : sI σm 1 5 = nI (S 3 5) := hSm.2.2.2.2
      have eax : f_X3_isAsleep (hI (S 0 k)) (nI (S 3 5)) σx = some (nI (asl (L 2 (S 0 k - 1)) (L 3 (S 0 k - 1)) (S 3 5))) := by
        rw [hI_pos h0k (by omega)]
        exact x_asleep (by omega) (hLx.2.2.1 _ hp).1 (hLx.2.2.1 _ hp).2.1 (hW3 _ hp).1 (hW3 _ hp).2.1 (by omega)
      have eam : f_X12_isAsleep (hI (S 0 k)) (nI (S 3 5)) σm = some (nI (asl (L 2 (S 0 k - 1)) (L 3 (S 0 k - 1)) (S 3 5))) := by
        rw [hI_pos h0k (by omega)]
        exact m_asleep (by omega) (hLm.2.2.1 _ hp).1 (hLm.2.2.1 _ hp).2.1 (hW3 _ hp).1 (hW3 _ hp).2.1 (by omega)
      simp only [if_neg h0k, exh, emh]
      rw [eax, eam, bnd, bnd]
      have hS00 : S0 0 k ≠ 0 := by rw [← i1 k (by omega) (Nat.le_refl _)]; exact h0k
      rcases asl_01 (L 2 (S 0 k - 1)) (L 3 (S 0 k - 1)) (S 3 5) with hz | hz
      · rw [hz]
        simp only [if_pos (show nI 0 = 0 from rfl)]
        refine skip (fun w hw hw0 => ?_) (fun w hw hw0 => ?_)
        · by_cases e : w = k
          · subst e
            rw [hbk0]
            exact ⟨fun q => absurd q (by decide), fun q => absurd q h0k⟩
          · exact i2 w (by omega) hw0
        · by_cases e : w = k
          · subst e; exact absurd hw0 hS00
          · exact i3 w (by omega) hw0
      · rw [hz]
        simp only [if_neg (show ¬ nI 1 = 0 by decide)]
        obtain ⟨g, J1, J2, t1, t2, t3⟩ := heir_eq hLx hLm hW0 hSx hSm hV hR (show k < N by omega)
        rw [t1, t2, bnd, bnd]
        simp only [q_none (show g < 2 ^ 31 by omega)]
        by_cases hg : g = 0
        · simp only [if_pos hg]
          obtain ⟨σx1, u1, u2, u3⟩ := x_lay (σ := jw σx J1) hSx (show k < 6 by omega) hV.2.2.1.1
          obtain ⟨σm1, v1, v2, v3⟩ := m_drops (σ := jw σm J2) hSm (show k < 6 by omega) hV.2.2.1.1
          have es : sI σx1 (a + 2) k = nI (S 1 k) := by rw [(u2.1 k (by omega)).2, aLay_1]
          have esm : sI σm1 10 k = nI (S 1 k) := by rw [(v2.1 k (by omega)).2, aLay_1]
          rw [u1, v1, bnd, bnd]
          simp only [es, esm, nI_1, b_or k (show k < 6 by omega) m hm]
          have hx1 : FX a σx (wI σx1 (a + 2) k (nI (S 1 k + 1))) := ((FX.jw a σx J1).trans u3).trans (FX.w a _ 2 (by omega) _ _)
          have hm1 : FM σm (wI σm1 10 k (nI (S 1 k + 1))) := ((FM.jw σm J2).trans v3).trans (FM.row _ _ _ (by decide))
          have hb' := h0.to hB ha hx1 hm1 (u2.stop k (S 1 k + 1) rfl) (v2.stop k (S 1 k + 1) rfl) ((hV.lay (show k < 6 by omega)).stop k _)
          have f35 : (up2 (aLay S k) 1 k (S 1 k + 1)) 3 5 = S 3 5 := by rw [up2_n _ _ _ _ (by decide), aLay_35]
          have f0 : ∀ w, (up2 (aLay S k) 1 k (S 1 k + 1)) 0 w = if w = k then 0 else S 0 w := fun w => by rw [up2_n _ _ _ _ (by decide), aLay_0]
          obtain ⟨m', σx', σm', S', r1, r2, r3, r4, r5, r6, r7, r8, r9⟩ := hour_loop hW0 ha S0 j (k + 1) n (m + 2 ^ k) _ _ _ (by omega) (by omega) (by rw [Nat.pow_succ]; omega) hb' (hB.fr hx1.1) (by rw [f35]; exact hh) (fun w hw hk2 => by rw [f0, if_neg (by omega)]; exact i1 w hw (by omega)) (fun w hw hw0 => by
            rw [f0, b_or_bt k (by omega) m hm w (by omega)]
            by_cases e : w = k
            · rw [if_pos e, if_pos e]; simp
            · rw [if_neg e, if_neg e]; exact i2 w (by omega) hw0) (fun w hw hw0 => by
            rw [f0]
            by_cases e : w = k
            · rw [if_pos e]
            · rw [if_neg e]; exact i3 w (by omega) hw0)
          rw [b_or_pc k (by omega) m hm] at r2
          exact ⟨m', σx', σm', S', r1, r2, r3, r4, hx1.trans r5, hm1.trans r6, by rw [r7, f35], r8, r9⟩
        · simp only [if_neg hg]
          have hx1 : FX a σx (wI (jw σx J1) (a + 1) k (hI g)) := (FX.jw a σx J1).trans (FX.w a _ 1 (by omega) _ _)
          have hm1 : FM σm (wI (jw σm J2) 9 k (hI g)) := (FM.jw σm J2).trans (FM.row _ _ _ (by decide))
          have hb' := h0.to hB ha hx1 hm1 (SX.hold (σ := jw σx J1) hSx k g rfl) (SM.hold (σ := jw σm J2) hSm k g rfl) (hV.hold (show k < N by omega) t3 hg)
          have f35 : (up2 S 0 k g) 3 5 = S 3 5 := up2_n _ _ _ _ (by decide)
          have f0 : ∀ w, (up2 S 0 k g) 0 w = if w = k then g else S 0 w := fun w => by simp [up2]
          obtain ⟨m', σx', σm', S', r1, r2, r3, r4, r5, r6, r7, r8, r9⟩ := hour_loop hW0 ha S0 j (k + 1) n m _ _ _ (by omega) (by omega) hm2 hb' (hB.fr hx1.1) (by rw [f35]; exact hh) (fun w hw hk2 => by rw [f0, if_neg (by omega)]; exact i1 w hw (by omega)) (fun w hw hw0 => by
            rw [f0]
            by_cases e : w = k
            · subst e; rw [if_pos rfl, hbk0]
              exact ⟨fun q => absurd q (by decide), fun q => absurd q hg⟩
            · rw [if_neg e]; exact i2 w (by omega) hw0) (fun w hw hw0 => by
            rw [f0]
            by_cases e : w = k
            · subst e; exact absurd hw0 hS00
            · rw [if_neg e]; exact i3 w (by omega) hw0)
          exact ⟨m', σx', σm', S', r1, r2, r3, r4, hx1.trans r5, hm1.trans r6, by rw [r7, f35], r8, r9⟩
  | _, _, 0, _, _, _, _, _, hn, _, _, _, _, _, _, _ => absurd hn (Nat.not_lt_zero _)
theorem hour_eq (hW : WL K P N L) (ha : a = 35 ∨ a = 46) {σx σm : MS} {S : Row2} (h : Both a σx σm K P N L S) (hB : RlB σx) (hh : S 3 5 < 3000) :
    ∃ m σx' σm' S', f_X1_passHour a σx = some (nI m, σx') ∧ f_X12_goes σm = some (nI (pc m), σm') ∧ m < 64 ∧ Both a σx' σm' K P N L S' ∧ FX a σx σx' ∧ FM σm σm' ∧ S' 3 5 = S 3 5 + 1 ∧ (∀ w, w < N → S 0 w ≠ 0 → (bt m w = 1 ↔ S' 0 w = 0)) ∧ (∀ w, w < N → S 0 w = 0 → S' 0 w = 0) := by
  have hN := hW.1.2.2.1
  have hF := FU_big
  exact hour_loop hW ha S N 0 FU 0 σx σm S (by omega) (by omega) (by decide) h hB hh (fun _ _ _ => rfl) (fun w hw => absurd hw (by omega)) (fun w hw => absurd hw (by omega))
end GG
end
