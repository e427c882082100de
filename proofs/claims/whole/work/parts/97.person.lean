/-! ===== pure: person; clauses; the whole text of a duchy ===== -/
section
section PP
variable {len : Nat} {T : Nat → Nat}
/-- both at one place without fault, or both with the same fault -/
def CSt (T : Nat → Nat) (len : Nat) (σx σm : MS) : Prop := (∃ p, LSy 16 T len p σx σm) ∨ (∃ f, f ≠ 0 ∧ f ≤ 4000 ∧ sI σx 16 6 = nI f ∧ FltM T len f σm)
theorem CSt.m {σx σm σm' : MS} (h : CSt T len σx σm) (h0 : sI σm' 0 = sI σm 0) (h28 : sI σm' 28 = sI σm 28) : CSt T len σx σm' := by
  rcases h with ⟨p, h⟩ | ⟨f, h1, h2, h3, h4⟩
  · exact Or.inl ⟨p, h.m h0 h28⟩
  · exact Or.inr ⟨f, h1, h2, h3, h4.m h0 h28⟩
theorem numS (hl : len ≤ 400) (hT : ∀ i, i < len → T i < 256) {l0 h : Nat} {lo hi : Int32} (elo : lo = nI l0) (ehi : hi = hI h) (hl0 : l0 ≤ 1) (hh : h ≤ 10000) {σx σm : MS} (C : CSt T len σx σm) :
    ∃ r s σx' σm', f_X2_readNumber lo hi σx = some (r, σx') ∧ f_X12_amount lo hi σm = some (s, σm') ∧ FA 16 σx σx' ∧ FR σm σm' ∧ CSt T len σx' σm' ∧ ((sI σx 16 6 = 0 ∧ ∃ p v, l0 ≤ v ∧ v < h ∧ r = nI v ∧ s = nI v ∧ LSy 16 T len p σx' σm') ∨ (∃ f, f ≠ 0 ∧ f ≤ 4000 ∧ sI σx' 16 6 = nI f ∧ FltM T len f σm')) := by
  rcases C with ⟨p, L⟩ | ⟨f, h1, h2, h3, h4⟩
  · rcases num3 hl hT elo ehi hl0 hh L with ⟨v, p1, σx1, σm1, a1, a2, a3, a4, a5, a6, a7, _⟩ | ⟨r1, r2, f, σx1, σm1, a1, a2, a3, a4, a5, a6, a7, a8⟩
    · exact ⟨_, _, _, _, a3, a4, a5, a6, Or.inl ⟨p1, a7⟩, Or.inl ⟨L.2.2.2.2.2.1, p1, v, a1, a2, rfl, rfl, a7⟩⟩
    · exact ⟨_, _, _, _, a3, a4, a5, a6, Or.inr ⟨f, a1, a2, a7, a8⟩, Or.inr ⟨f, a1, a2, a7, a8⟩⟩
  · obtain ⟨σm1, b1, b2, b3⟩ := m_amountF hl hT h1 h2 h4 lo hi
    exact ⟨_, _, σx, σm1, x_numF h1 h2 h3 lo hi, b1, FA.refl _ _, b2, Or.inr ⟨f, h1, h2, h3, b3⟩, Or.inr ⟨f, h1, h2, h3, b3⟩⟩
theorem flt_no {f : Nat} {σ : MS} (h0 : sI σ 16 6 = 0) (h : sI σ 16 6 = nI f) (hf : f ≠ 0) (hf2 : f ≤ 4000) : False := by
  rw [h0] at h
  have := (n_zero (k := f) (by omega)).mp h.symm
  exact hf this
theorem part_2 (hl : len ≤ 400) (hT : ∀ i, i < len → T i < 256) {p K P N : Nat} {L S : Row2} {σx σm : MS} (Ls : LSy 16 T len p σx σm) (D : Dft 1 K P N L S σx σm) (hW : WD 1 K P N L S) (hP : P < 4) : ∃ σx' σm', f_X2_readPerson σx = some σx' ∧ f_X12_duchyPart (nI 2) σm = some σm' ∧ Res T len σx σm σx' σm' := by
  have D0 := D
  obtain ⟨⟨d1, ⟨⟨l1, l2, l3, l4⟩, l5, l6, l7⟩, d3⟩, ⟨d4, d5, d6, d7, d8⟩, d9, d10, d11⟩ := D
  have bp : inb (nI P) 4 := in_n hP (by decide)
  obtain ⟨r1, s1, σx1, σm1, a1, a2, a3, a4, a5, a6⟩ := numS hl hT (l0 := 0) (h := 1000) (lo := 0) (hi := 999) rfl (by decide) (by omega) (by omega) (Or.inl ⟨p, Ls⟩)
  obtain ⟨r2, s2, σx2, σm2, b1, b2, b3, b4, b5, b6⟩ := numS hl hT (l0 := 0) (h := 24) (lo := 0) (hi := 23) rfl (by decide) (by omega) (by omega) (a5.m (σm' := wI σm1 21 P s1) (sI_wIn _ _ _ _ (by decide)) (sI_wIn _ _ _ _ (by decide)))
  obtain ⟨r3, s3, σx3, σm3, c1, c2, c3, c4, c5, c6⟩ := numS hl hT (l0 := 0) (h := 25) (lo := 0) (hi := 24) rfl (by decide) (by omega) (by omega) (b5.m (σm' := wI σm2 22 P s2) (sI_wIn _ _ _ _ (by decide)) (sI_wIn _ _ _ _ (by decide)))
  obtain ⟨r4, s4, σx4, σm4, e1, e2, e3, e4, e5, e6⟩ := numS hl hT (l0 := 1) (h := 4) (lo := 1) (hi := 3) rfl (by decide) (by omega) (by omega) (c5.m (σm' := wI σm3 23 P s3) (sI_wIn _ _ _ _ (by decide)) (sI_wIn _ _ _ _ (by decide)))
  have fax : FA 16 σx σx4 := a3.trans (b3.trans (c3.trans e3))
  have m24 : ∀ x, (x = 18 ∨ 19 ≤ x ∧ x ≤ 20 ∨ 24 ≤ x ∧ x ≤ 27) → sI σm4 x = sI σm x := fun x hx => by rw [e4.2.1 x (by omega), sI_wIn _ _ _ _ (by omega), c4.2.1 x (by omega), sI_wIn _ _ _ _ (by omega), b4.2.1 x (by omega), sI_wIn _ _ _ _ (by omega), a4.2.1 x (by omega)]
  have m183 : sI (wI σm4 24 P s4) 18 3 = nI P := by rw [sI_wIn _ _ _ _ (by decide), m24 18 (by decide)]; exact d7
  have fm4 : FrM σm σm4 := a4.fm.trans ((FrM.w _ _ _ (by decide)).trans (b4.fm.trans ((FrM.w _ _ _ (by decide)).trans (c4.fm.trans ((FrM.w _ _ _ (by decide)).trans e4.fm)))))
  have fm : FrM σm (wI (wI σm4 24 P s4) 18 3 (nI (P + 1))) := fm4.trans ((FrM.w _ _ _ (by decide)).trans (FrM.w _ _ _ (by decide)))
  have hmE : f_X12_duchyPart (nI 2) σm = some (wI (wI σm4 24 P s4) 18 3 (nI (P + 1))) := by
    unfold f_X12_duchyPart b_X12_duchyPart_0 b_X12_duchyPart_183
    rw [if_neg (show ¬ nI 2 = (0 : Int32) by decide), if_neg (show ¬ nI 2 = (1 : Int32) by decide), if_pos (show nI 2 = (2 : Int32) from rfl)]
    unfold f_X12_readsPerson b_X12_readsPerson_0
    rw [d7, ix_n (by omega), a2, bnd, chk_t bp, b2, bnd, chk_t bp, c2, bnd, chk_t bp, e2, bnd, chk_t bp]
    show (some (wI (wI σm4 24 P s4) 18 3 (sI (wI σm4 24 P s4) 18 3 + 1))).bind _ = _
    rw [m183, nI_1]; rfl
  have hxE : f_X2_readPerson σx = if sI σx4 16 6 = 0 then f_X3_addPerson r1 r2 r3 r4 σx4 else some σx4 := by
    unfold f_X2_readPerson b_X2_readPerson_0 b_X2_readPerson_55
    rw [a1, bnd]
    show (f_X2_readNumber 0 23 σx1).bind _ = _
    rw [b1, bnd]
    show (f_X2_readNumber 0 24 σx2).bind _ = _
    rw [c1, bnd]
    show (f_X2_readNumber 1 3 σx3).bind _ = _
    rw [e1, bnd]
    show (if sI σx4 16 6 = 0 then (f_X3_addPerson r1 r2 r3 r4 σx4).bind (fun r12 => some r12) else some σx4) = _
    cases f_X3_addPerson r1 r2 r3 r4 σx4 <;> rfl
  rw [hxE, hmE]
  rcases e6 with ⟨z3, p4, v4, g1, g2, g3, g4, g5⟩ | ⟨f, g1, g2, g3, g4⟩
  · rcases c6 with ⟨z2, p3, v3, _, h2, h3, h4, _⟩ | ⟨f, h1, h2, h3, h4⟩
    rotate_left
    · exact (flt_no z3 h3 h1 h2).elim
    rcases b6 with ⟨z1, p2, v2, _, i2, i3, i4, _⟩ | ⟨f, h1, h2, h3, h4⟩
    rotate_left
    · exact (flt_no z2 h3 h1 h2).elim
    rcases a6 with ⟨_, p1, v1, _, j2, j3, j4, _⟩ | ⟨f, h1, h2, h3, h4⟩
    rotate_left
    · exact (flt_no z1 h3 h1 h2).elim
    have rx2 : ∀ b, b ≠ 16 → sI σx4 b = sI σx b := fun b hb => fax.2 b hb
    have e43 : sI σx4 4 3 = nI P := by rw [rx2 4 (by decide)]; exact l2
    have eadd : f_X3_addPerson r1 r2 r3 r4 σx4 = some (wI (wI (wI (wI (wI σx4 15 P r1) 7 P r2) 8 P r3) 9 P r4) 4 3 (nI (P + 1))) := by
      unfold f_X3_addPerson b_X3_addPerson_0 b_X3_addPerson_41 b_X3_addPerson_62
      have k1 : sI (wI σx4 15 P r1) 4 3 = nI P := by rw [sI_wIn _ _ _ _ (by decide)]; exact e43
      have k2 : sI (wI (wI σx4 15 P r1) 7 P r2) 4 3 = nI P := by rw [sI_wIn _ _ _ _ (by decide)]; exact k1
      have k3 : sI (wI (wI (wI σx4 15 P r1) 7 P r2) 8 P r3) 4 3 = nI P := by rw [sI_wIn _ _ _ _ (by decide)]; exact k2
      have k4 : sI (wI (wI (wI (wI σx4 15 P r1) 7 P r2) 8 P r3) 9 P r4) 4 3 = nI P := by rw [sI_wIn _ _ _ _ (by decide)]; exact k3
      rw [e43, q_ln_le (by decide) (by omega), if_neg (by omega), chk_t bp, ix_n (by omega), k1, chk_t bp, ix_n (by omega), k2, chk_t bp, ix_n (by omega), k3, chk_t bp, ix_n (by omega), k4, nI_1]
    have z4 := g5.2.2.2.2.2.1
    refine ⟨_, _, by rw [z4, if_pos rfl, eadd], rfl, fax.fx.trans ((FrX.w _ _ _ (by decide)).trans ((FrX.w _ _ _ (by decide)).trans ((FrX.w _ _ _ (by decide)).trans ((FrX.w _ _ _ (by decide)).trans (FrX.w _ _ _ (by decide)))))), fm, Or.inl ⟨p4, K, P + 1, N, up2 (up2 (up2 L 2 P v2) 3 P v3) 4 P v4, up2 S 2 P v1, ?_, ?_, ?_⟩⟩
    · refine (g5.x ?_ ?_ ?_).m ?_ ?_
      · rw [sI_wIn _ _ _ _ (by decide), sI_wIn _ _ _ _ (by decide), sI_wIn _ _ _ _ (by decide), sI_wIn _ _ _ _ (by decide), sI_wIn _ _ _ _ (by decide)]
      · rw [sI_wIn _ _ _ _ (by decide), sI_wIn _ _ _ _ (by decide), sI_wIn _ _ _ _ (by decide), sI_wIn _ _ _ _ (by decide), sI_wIn _ _ _ _ (by decide)]
      · rw [sI_wIn _ _ _ _ (by decide), sI_wIn _ _ _ _ (by decide), sI_wIn _ _ _ _ (by decide), sI_wIn _ _ _ _ (by decide), sI_wIn _ _ _ _ (by decide)]
      · rw [sI_wIn _ _ _ _ (by decide), sI_wIn _ _ _ _ (by decide)]
      · rw [sI_wIn _ _ _ _ (by decide), sI_wIn _ _ _ _ (by decide)]
    · generalize hA : wI (wI (wI (wI (wI σx4 15 P r1) 7 P r2) 8 P r3) 9 P r4) 4 3 (nI (P + 1)) = A
      generalize hB : wI (wI σm4 24 P s4) 18 3 (nI (P + 1)) = B
      have rx : ∀ b, b ≠ 4 → b ≠ 7 → b ≠ 8 → b ≠ 9 → b ≠ 15 → b ≠ 16 → sI A b = sI σx b := fun b q1 q2 q3 q4 q5 q6 => by rw [← hA, sI_wIn _ _ _ _ q1, sI_wIn _ _ _ _ q4, sI_wIn _ _ _ _ q3, sI_wIn _ _ _ _ q2, sI_wIn _ _ _ _ q5, rx2 b q6]
      have r4' : ∀ j, sI A 4 j = if j = 3 then nI (P + 1) else sI σx 4 j := fun j => by rw [← hA, sI_r, sI_wIn _ _ _ _ (by decide), sI_wIn _ _ _ _ (by decide), sI_wIn _ _ _ _ (by decide), sI_wIn _ _ _ _ (by decide), rx2 4 (by decide)]
      have r7 : ∀ j, sI A 7 j = if j = P then nI v2 else sI σx 7 j := fun j => by rw [← hA, sI_wIn _ _ _ _ (by decide), sI_wIn _ _ _ _ (by decide), sI_wIn _ _ _ _ (by decide), sI_r, sI_wIn _ _ _ _ (by decide), rx2 7 (by decide), i3]
      have r8 : ∀ j, sI A 8 j = if j = P then nI v3 else sI σx 8 j := fun j => by rw [← hA, sI_wIn _ _ _ _ (by decide), sI_wIn _ _ _ _ (by decide), sI_r, sI_wIn _ _ _ _ (by decide), sI_wIn _ _ _ _ (by decide), rx2 8 (by decide), h3]
      have r9 : ∀ j, sI A 9 j = if j = P then nI v4 else sI σx 9 j := fun j => by rw [← hA, sI_wIn _ _ _ _ (by decide), sI_r, sI_wIn _ _ _ _ (by decide), sI_wIn _ _ _ _ (by decide), sI_wIn _ _ _ _ (by decide), rx2 9 (by decide), g3]
      have r15 : ∀ j, sI A 15 j = if j = P then nI v1 else sI σx 15 j := fun j => by rw [← hA, sI_wIn _ _ _ _ (by decide), sI_wIn _ _ _ _ (by decide), sI_wIn _ _ _ _ (by decide), sI_wIn _ _ _ _ (by decide), sI_r, rx2 15 (by decide), j3]
      have rm : ∀ b, (b = 19 ∨ b = 20 ∨ 25 ≤ b ∧ b ≤ 27) → sI B b = sI σm b := fun b hb => by rw [← hB, sI_wIn _ _ _ _ (by omega), sI_wIn _ _ _ _ (by omega), m24 b (by omega)]
      have r18 : ∀ j, sI B 18 j = if j = 3 then nI (P + 1) else sI σm 18 j := fun j => by rw [← hB, sI_r, sI_wIn _ _ _ _ (by decide), m24 18 (by decide)]
      have r24 : ∀ j, sI B 24 j = if j = P then nI v4 else sI σm 24 j := fun j => by rw [← hB, sI_wIn _ _ _ _ (by decide), sI_r, m24 24 (by decide), g4]
      have r23 : ∀ j, sI B 23 j = if j = P then nI v3 else sI σm 23 j := fun j => by rw [← hB, sI_wIn _ _ _ _ (by decide), sI_wIn _ _ _ _ (by decide), e4.2.1 23 (by decide), sI_r, c4.2.1 23 (by decide), sI_wIn _ _ _ _ (by decide), b4.2.1 23 (by decide), sI_wIn _ _ _ _ (by decide), a4.2.1 23 (by decide), h4]
      have r22 : ∀ j, sI B 22 j = if j = P then nI v2 else sI σm 22 j := fun j => by rw [← hB, sI_wIn _ _ _ _ (by decide), sI_wIn _ _ _ _ (by decide), e4.2.1 22 (by decide), sI_wIn _ _ _ _ (by decide), c4.2.1 22 (by decide), sI_r, b4.2.1 22 (by decide), sI_wIn _ _ _ _ (by decide), a4.2.1 22 (by decide), i4]
      have r21 : ∀ j, sI B 21 j = if j = P then nI v1 else sI σm 21 j := fun j => by rw [← hB, sI_wIn _ _ _ _ (by decide), sI_wIn _ _ _ _ (by decide), e4.2.1 21 (by decide), sI_wIn _ _ _ _ (by decide), c4.2.1 21 (by decide), sI_wIn _ _ _ _ (by decide), b4.2.1 21 (by decide), sI_r, a4.2.1 21 (by decide), j4]
      have uL : ∀ a j, a ≠ 2 → a ≠ 3 → a ≠ 4 → up2 (up2 (up2 L 2 P v2) 3 P v3) 4 P v4 a j = L a j := fun a j h1 h2 h3 => by rw [up2_n _ _ _ _ h3, up2_n _ _ _ _ h2, up2_n _ _ _ _ h1]
      have u2 : ∀ j, up2 (up2 (up2 L 2 P v2) 3 P v3) 4 P v4 2 j = if j = P then v2 else L 2 j := fun j => by rw [up2_n _ _ _ _ (by decide), up2_n _ _ _ _ (by decide), up2_r]
      have u3 : ∀ j, up2 (up2 (up2 L 2 P v2) 3 P v3) 4 P v4 3 j = if j = P then v3 else L 3 j := fun j => by rw [up2_n _ _ _ _ (by decide), up2_r, up2_n _ _ _ _ (by decide)]
      have u4 : ∀ j, up2 (up2 (up2 L 2 P v2) 3 P v3) 4 P v4 4 j = if j = P then v4 else L 4 j := fun j => by rw [up2_r, up2_n _ _ _ _ (by decide), up2_n _ _ _ _ (by decide)]
      have uS : ∀ a j, a ≠ 2 → up2 S 2 P v1 a j = S a j := fun a j h => up2_n _ _ _ _ h
      have n12 : ∀ b, 12 ≤ b → b ≤ 14 → sI A b = sI σx b := fun b q1 q2 => rx b (by omega) (by omega) (by omega) (by omega) (by omega) (by omega)
      refine ⟨⟨by rw [r4']; exact d1, ⟨⟨by rw [r4']; exact l1, by rw [r4']; rfl, by rw [r4']; exact l3, by rw [r4', uL _ _ (by decide) (by decide) (by decide)]; exact l4⟩, fun k hk => ?_, fun q hq => ?_, fun w hw => ?_⟩, ⟨fun w hw => ?_, fun q hq => ?_, ?_⟩⟩, ⟨by rw [r18, uL _ _ (by decide) (by decide) (by decide)]; exact d4, by rw [r18, uS _ _ (by decide)]; exact d5, by rw [r18]; exact d6, by rw [r18]; rfl, by rw [r18]; exact d8⟩, fun k hk => ?_, fun q hq => ?_, fun w hw => ?_⟩
      · rw [rx _ (by omega) (by omega) (by omega) (by omega) (by omega) (by omega), rx _ (by omega) (by omega) (by omega) (by omega) (by omega) (by omega), uL _ _ (by decide) (by decide) (by decide), uL _ _ (by decide) (by decide) (by decide)]; exact l5 k hk
      · show sI A 7 q = _ ∧ sI A 8 q = _ ∧ sI A 9 q = _
        rw [r7, r8, r9, u2, u3, u4]
        by_cases e : q = P
        · rw [if_pos e, if_pos e, if_pos e, if_pos e, if_pos e, if_pos e]; exact ⟨rfl, rfl, rfl⟩
        · rw [if_neg e, if_neg e, if_neg e, if_neg e, if_neg e, if_neg e]; exact l6 q (by omega)
      · rw [rx _ (by omega) (by omega) (by omega) (by omega) (by omega) (by omega), rx _ (by omega) (by omega) (by omega) (by omega) (by omega) (by omega), uL _ _ (by decide) (by decide) (by decide), uL _ _ (by decide) (by decide) (by decide)]; exact l7 w hw
      · rw [n12 _ (by omega) (by omega), n12 _ (by omega) (by omega), uS _ _ (by decide), uS _ _ (by decide)]; exact d3.1 w hw
      · show sI A 15 q = _
        rw [r15, up2_r]
        by_cases e : q = P
        · rw [if_pos e, if_pos e]
        · rw [if_neg e, if_neg e]; exact d3.2.1 q hq
      · rw [n12 _ (by omega) (by omega), uS _ _ (by decide), uS _ _ (by decide), uS _ _ (by decide)]; exact d3.2.2
      · rw [rm _ (by omega), rm _ (by omega), uL _ _ (by decide) (by decide) (by decide), uL _ _ (by decide) (by decide) (by decide)]; exact d9 k hk
      · rw [r21, r22, r23, r24, up2_r, u2, u3, u4]
        by_cases e : q = P
        · rw [if_pos e, if_pos e, if_pos e, if_pos e, if_pos e, if_pos e, if_pos e, if_pos e]; exact ⟨rfl, rfl, rfl, rfl⟩
        · rw [if_neg e, if_neg e, if_neg e, if_neg e, if_neg e, if_neg e, if_neg e, if_neg e]; exact d10 q (by omega)
      · rw [rm _ (by omega), rm _ (by omega), rm _ (by omega), uL _ _ (by decide) (by decide) (by decide), uL _ _ (by decide) (by decide) (by decide), uS _ _ (by decide)]; exact d11 w hw
    · obtain ⟨w1, ⟨⟨w2, w3, w4, w5⟩, w6, w7, w8⟩, w9, ⟨s1', s2', s3', s4'⟩, w10, w11, w12⟩ := hW
      have u4 : ∀ j, up2 (up2 (up2 L 2 P v2) 3 P v3) 4 P v4 4 j = if j = P then v4 else L 4 j := fun j => by rw [up2_r, up2_n _ _ _ _ (by decide), up2_n _ _ _ _ (by decide)]
      refine ⟨w1, ⟨⟨w2, by omega, w4, w5⟩, w6, fun q hq => ?_, w8⟩, fun q hq => ?_, ⟨fun w hw => ⟨?_, (s1' w hw).2⟩, fun q hq => ?_, s3', s4'⟩, w10, w11, w12⟩
      · rw [u4, up2_n _ _ _ _ (by decide), up2_n _ _ _ _ (by decide), up2_r, up2_n _ _ _ _ (by decide), up2_r, up2_n _ _ _ _ (by decide)]
        by_cases e : q = P
        · rw [if_pos e, if_pos e, if_pos e]; omega
        · rw [if_neg e, if_neg e, if_neg e]; exact w7 q (by omega)
      · rw [u4]
        by_cases e : q = P
        · rw [if_pos e]; omega
        · rw [if_neg e]; exact w9 q (by omega)
      · have := (s1' w hw).1
        rw [up2_n _ _ _ _ (by decide)]; omega
      · rw [up2_r]
        by_cases e : q = P
        · rw [if_pos e]; exact ⟨by omega, fun z => by omega⟩
        · rw [if_neg e]; exact ⟨(s2' q hq).1, fun z => (s2' q hq).2 (by omega)⟩
  · refine ⟨σx4, _, by rw [g3, q_zero (by omega), if_neg g1], rfl, fax.fx, fm, Or.inr ⟨f, g1, g2, g3, (g4.m (sI_wIn _ _ _ _ (by decide)) (sI_wIn _ _ _ _ (by decide))).m (sI_wIn _ _ _ _ (by decide)) (sI_wIn _ _ _ _ (by decide))⟩⟩
end PP
end
