/-! ===== pure: trials ===== -/
section
theorem i0 : ix (0 : Int32) = 0 := by decide
theorem i4 : ix (4 : Int32) = 4 := by decide
theorem i6 : ix (6 : Int32) = 6 := by decide
theorem cpy_in {f g : Nat → Int32} {n j : Nat} (h : j < n) : va_cpy f g 0 0 n j = f j := by
  rw [pk_cpy_in (by omega) (by omega)]
  congr 1
  omega
theorem x_copy {a0 a1 : Nat} {σ : MS} {S : Row2} (h : SX a1 σ S) (hd : a0 + 3 < a1 ∨ a1 + 3 < a0) : ∃ σ', f_X8_copyFrom a0 a1 σ = some σ' ∧ SX a0 σ' S ∧ FX a0 σ σ' := by
  unfold f_X8_copyFrom b_X8_copyFrom_0 b_X8_copyFrom_30 b_X8_copyFrom_52
  refine ⟨_, rfl, ⟨fun w hw => ⟨?_, ?_⟩, fun p hp => ?_, ?_, ?_, ?_⟩, ⟨⟨rfl, rfl, rfl⟩, fun b hb => ?_⟩⟩
  · simp (disch := omega) only [sI_wIn, sI_wWn, sI_wWs]
    rw [i0, i6, cpy_in hw]
    exact (h.1 w hw).1
  · simp (disch := omega) only [sI_wIn, sI_wWn, sI_wWs]
    rw [i0, i6, cpy_in hw]
    exact (h.1 w hw).2
  · simp (disch := omega) only [sI_wIn, sI_wWn, sI_wWs]
    rw [i0, i4, cpy_in hp]
    exact h.2.1 p hp
  · rw [sI_wIk _ _ _ _ (by decide), sI_wIk _ _ _ _ (by decide), sI_wIs]
    simp (disch := omega) only [sI_wIn, sI_wWn, sI_wWs]
    exact h.2.2.1
  · rw [sI_wIk _ _ _ _ (by decide), sI_wIs]
    simp (disch := omega) only [sI_wIn, sI_wWn, sI_wWs]
    exact h.2.2.2.1
  · rw [sI_wIs]
    simp (disch := omega) only [sI_wIn, sI_wWn, sI_wWs]
    exact h.2.2.2.2
  · simp (disch := omega) only [sI_wIn, sI_wWn]
/-- the rule of a number -/
theorem x_ruleNumbered {t : Nat} {ow : Nat → Nat} {W : Wd} {Wi : Nat → Option Wd} {RR : List (List Cls)} {T : Nat → Nat} {len : Nat} {σ : MS} (h : IX t ow W Wi RR T len σ) (hR : RR.length ≤ 6) {f : Nat} (hf : f ≤ RR.length) : ∃ o, f_X11_ruleNumbered (hI f) σ = some o ∧ ((f = 0 ∧ o = none) ∨ (f ≠ 0 ∧ ∃ b, o = some b ∧ 56 ≤ b ∧ RXc σ b (codesOf (RR.getD (f - 1) [])))) := by
  unfold f_X11_ruleNumbered b_X11_ruleNumbered_0 b_X11_ruleNumbered_21 b_X11_ruleNumbered_22
  cases f with
  | zero => exact ⟨none, by rw [hI_0, if_pos m1_neg], Or.inl ⟨rfl, rfl⟩⟩
  | succ r =>
    obtain ⟨b, k1, k2, k3, _⟩ := h.2.2.1.2 r (by omega)
    refine ⟨some b, ?_, Or.inr ⟨by omega, b, rfl, k2, k3⟩⟩
    rw [hI_s, if_neg (nI_pos (by omega)), h.2.2.1.1, q_le (by omega) (by omega), if_neg (by omega), chk_t (in_n (show r < 6 by omega) (by decide)), ix_n (by omega), k1, onr_s, chk_t k3.1]
/-- alike but for the image that is kept for questions -/
def KG (σ σ' : MS) : Prop := Sm σ σ' ∧ (∀ j, j ≠ 62 → j ≠ 63 → sI σ' 0 j = sI σ 0 j) ∧ (∀ b, b ≠ 0 → b ≠ 1 → b ≠ 4 → b ≠ 9 → b ≠ 10 → (b ≠ 45 ∧ b ≠ 43 ∧ b ≠ 44) → sI σ' b = sI σ b) ∧ ((∀ j, j < 10 → sI σ' 1 j = sI σ 1 j) ∧ (∀ j, j < 4 → sI σ' 4 j = sI σ 4 j) ∧ (∀ j, j < 6 → sI σ' 9 j = sI σ 9 j) ∧ (∀ j, j < 6 → sI σ' 10 j = sI σ 10 j)) ∧ (∀ j, j < 2200 → sI σ' 45 j = sI σ 45 j)
theorem KF.g {σ σ' : MS} (h : KF σ σ') : KG σ σ' := ⟨h.1, h.2.1, fun b h0 _ _ _ _ h45 => h.2.2.1 b h0 h45.1, ⟨fun j _ => by rw [h.2.2.1 1 (by decide) (by decide)], fun j _ => by rw [h.2.2.1 4 (by decide) (by decide)], fun j _ => by rw [h.2.2.1 9 (by decide) (by decide)], fun j _ => by rw [h.2.2.1 10 (by decide) (by decide)]⟩, h.2.2.2⟩
theorem KG.sc {σ σ' : MS} (h : KG σ σ') : ScM σ σ' := ⟨h.1, fun j hj => h.2.1 j (by omega) (by omega), fun b hb => h.2.2.1 b (by omega) (by omega) (by omega) (by omega) (by omega) (by omega), h.2.2.2.1.1, h.2.2.2.1.2.1, h.2.2.2.1.2.2.1, h.2.2.2.1.2.2.2, h.2.2.2.2⟩
/-- alike but for the state's rows -/
def F2 (σ σ' : MS) : Prop := Sm σ σ' ∧ ∀ b, b ≠ 1 → b ≠ 4 → b ≠ 9 → (b ≠ 10 ∧ b ≠ 43 ∧ b ≠ 44) → sI σ' b = sI σ b
theorem FM.f2 {σ σ' : MS} (h : FM σ σ') : F2 σ σ' := ⟨h.1, fun b h1 h4 h9 h10 => h.2.1 b h1 h4 h9 h10.1⟩
theorem F2.refl (σ : MS) : F2 σ σ := ⟨Sm.refl σ, fun _ _ _ _ _ => rfl⟩
theorem F2.trans {σ σ' σ'' : MS} (h : F2 σ σ') (g : F2 σ' σ'') : F2 σ σ'' := ⟨h.1.trans g.1, fun b h1 h2 h3 h4 => (g.2 b h1 h2 h3 h4).trans (h.2 b h1 h2 h3 h4)⟩
theorem back_kg {σ0 σ1 σ2 : MS} (h : KG σ0 σ1) (hb : KB σ0 σ1) (hf : F2 σ1 σ2) : ∃ σ3, f_X12_laysBack σ2 = some σ3 ∧ KG σ0 σ3 ∧ KB σ0 σ3 := by
  have e45 := hf.2 45 (by decide) (by decide) (by decide) (by decide)
  have hb2 : KB σ0 σ2 := by unfold KB; rw [e45]; exact hb
  obtain ⟨σ3, g1, g2, g3, g4, g5⟩ := m_laysBack hb2
  refine ⟨σ3, g1, ⟨(h.1.trans hf.1).trans g2, fun j h1 h2 => ?_, fun b h0 h1 h4 h9 h10 h45 => ?_, g5, fun j hj => ?_⟩, ?_⟩
  · rw [g3 j h1 h2, hf.2 0 (by decide) (by decide) (by decide) (by decide), h.2.1 j h1 h2]
  · rw [g4 b h0 h1 h4 h9 h10, hf.2 b h1 h4 h9 ⟨h10, h45.2.1, h45.2.2⟩, h.2.2.1 b h0 h1 h4 h9 h10 h45]
  · rw [g4 45 (by decide) (by decide) (by decide) (by decide) (by decide), e45, h.2.2.2.2 j hj]
  · unfold KB; rw [g4 45 (by decide) (by decide) (by decide) (by decide) (by decide)]; exact hb2
theorem LM.kg {σ σ' : MS} {K P N : Nat} {L : Row2} (h : LM σ K P N L) (hK : K ≤ 5) (hP : P ≤ 4) (hN : N ≤ 6) (g : KG σ σ') : LM σ' K P N L := h.cg hK hP hN g.2.2.2.1.1 (fun b j hb _ => by rw [g.2.2.1 b (by omega) (by omega) (by omega) (by omega) (by omega) (by omega)])
theorem SM.kg {σ σ' : MS} {P N : Nat} {S : Row2} (h : SM σ P N S) (hP : P ≤ 4) (hN : N ≤ 6) (g : KG σ σ') : SM σ' P N S := h.cg hP hN g.2.2.2.1.1 g.2.2.2.1.2.1 g.2.2.2.1.2.2.1 g.2.2.2.1.2.2.2
section TT
variable {t : Nat} {ow : Nat → Nat} {W : Wd} {Wi : Nat → Option Wd} {RR : List (List Cls)} {T : Nat → Nat} {len : Nat} {σx σm : MS}
theorem x_follow (o : Option Nat) (h : Int32) (σ : MS) : f_X1_follow o h σ = some (wI (wR σ 44 2 o) 44 3 h) := rfl
theorem sR_wR (σ : MS) (a k : Nat) (v : Option Nat) (b j : Nat) : sR (wR σ a k v) b j = if b = a then (if j = k then v else sR σ b j) else sR σ b j := rfl
/-- the class begins a trial -/
theorem x_start (hx : IX t ow W Wi RR T len σx) (hR : RR.length ≤ 6) (hf : wc W 4 ≤ RR.length) (h : Int32) : ∃ σ1, f_X11_startTrial h σx = some σ1 ∧ ScX σx σ1 ∧ SX 46 σ1 (wS W) ∧ sI σ1 44 3 = h ∧ ((wc W 4 = 0 ∧ sR σ1 44 2 = none) ∨ (wc W 4 ≠ 0 ∧ ∃ b, sR σ1 44 2 = some b ∧ 56 ≤ b ∧ RXc σ1 b (codesOf (RR.getD (wc W 4 - 1) [])))) := by
  obtain ⟨o, e1, e2⟩ := x_ruleNumbered hx hR hf
  have hS : SX 35 (wI (wR σx 44 2 o) 44 3 h) (wS W) := (show SX 35 σx (wS W) from hx.2.2.2.1.2.2.1).fr (fun b q1 q2 => by rw [sI_wIn _ _ _ _ (by omega)]; rfl)
  obtain ⟨σ1, c1, c2, c3⟩ := x_copy (a0 := 46) hS (by decide)
  have sc0 : ScX σx (wI (wR σx 44 2 o) 44 3 h) := by
    refine ⟨rfl, rfl, fun b hb => ?_, fun b hb => ?_, ?_⟩
    · funext j; show sR (wR σx 44 2 o) b j = sR σx b j; rw [sR_wR, if_neg hb]
    · rw [sI_wIn _ _ _ _ (by omega)]; rfl
    · rw [sI_wIn _ _ _ _ (by decide)]; rfl
  have sc : ScX σx σ1 := sc0.trans c3.sc
  have e44 : sR σ1 44 2 = o := by rw [c3.1.2.2]; show sR (wR σx 44 2 o) 44 2 = o; rw [sR_wR, if_pos rfl, if_pos rfl]
  refine ⟨σ1, ?_, sc, c2, by rw [c3.2 44 (by omega), sI_wIs], ?_⟩
  · unfold f_X11_startTrial b_X11_startTrial_0
    rw [show sI σx 22 9 = hI (wc W 4) from hx.2.2.2.1.2.2.2.1.1, e1, bnd, x_follow, bnd, c1]; rfl
  · rcases e2 with ⟨q1, q2⟩ | ⟨q1, b, q2, q3, q4⟩
    · exact Or.inl ⟨q1, by rw [e44, q2]⟩
    · refine Or.inr ⟨q1, b, by rw [e44, q2], q3, ?_⟩
      obtain ⟨⟨r1, r2, r3⟩, r4, r5, r6⟩ := q4
      exact ⟨⟨by rw [sc.1]; exact r1, by rw [sc.2.1]; exact r2, by rw [sc.2.1]; exact r3⟩, by rw [sc.2.1]; exact r4, r5, by rw [sc.2.2.2.1 (b + 1) (by omega)]; exact r6⟩
/-- the rule in force, on both sides -/
theorem rl_of {f : Nat} {σ1 σ2 : MS} (hR : RR.length ≤ 6) (hw : ∀ r, r < RR.length → WR (RR.getD r [])) (hf : f ≤ RR.length) (h1 : (f = 0 ∧ sR σ1 44 2 = none) ∨ (f ≠ 0 ∧ ∃ b, sR σ1 44 2 = some b ∧ 56 ≤ b ∧ RXc σ1 b (codesOf (RR.getD (f - 1) [])))) (h2 : sI σ2 1 9 = hI f) (h3 : ∀ r, r < RR.length → RMr σ2 r (RR.getD r [])) : Rl σ1 σ2 ∧ RlB σ1 := by
  rcases h1 with ⟨rfl, e⟩ | ⟨h0, b, e1, e2, e3⟩
  · exact ⟨Or.inl ⟨e, by rw [h2, hI_0]⟩, fun b hb => by rw [e] at hb; cases hb⟩
  · refine ⟨Or.inr ⟨b, f - 1, RR.getD (f - 1) [], e1, e3, by omega, by rw [h2, hI_pos h0 (by omega)], h3 _ (by omega), hw _ (by omega)⟩, fun b' hb => ?_⟩
    rw [e1] at hb
    have := Option.some.inj hb
    omega
/-- a trial begins, on both sides -/
theorem trial (hx : IX t ow W Wi RR T len σx) (hm : IM W Wi RR T len σm) (ho : OKW W Wi RR T len) {σ2 : MS} (hk : KG σm σ2) : ∃ σ1, f_X11_startTrial (-1) σx = some σ1 ∧ ScX σx σ1 ∧ Both 46 σ1 σ2 (wc W 1) (wc W 2) (wc W 3) (wL W) (wS W) ∧ RlB σ1 := by
  have hW := ho.2.2.1.1
  obtain ⟨⟨hK5, hP4, hN6, hf⟩, _⟩ := hW.2.1.1
  obtain ⟨σ1, a1, a2, a3, a4, a5⟩ := x_start hx ho.2.1.1 ho.2.2.1.2 (-1)
  have hL : LX 23 σx (wc W 1) (wc W 2) (wc W 3) (wL W) := hx.2.2.2.1.1.2
  obtain ⟨b1, b2⟩ := rl_of (σ2 := σ2) ho.2.1.1 ho.2.1.2 ho.2.2.1.2 a5 (by rw [hk.2.2.2.1.1 9 (by decide)]; exact hm.2.2.1.2.2.2.1.1) (fun r hr => (hm.2.1.2.2 r hr).fr (fun b q1 q2 => hk.2.2.1 b (by omega) (by omega) (by omega) (by omega) (by omega) (by omega)))
  exact ⟨σ1, a1, a2, ⟨(hL.fr (fun b q1 q2 => a2.2.2.2.1 b (by omega))).h hP4 a4, hm.2.2.1.1.2.kg hK5 hP4 hN6 hk, a3, hm.2.2.1.2.1.kg hP4 hN6 hk, hW.2.2.1.1, b1⟩, b2⟩
end TT
section GO
variable {K P N : Nat} {L : Row2}
/-- hours go on -/
theorem go_loop (hW : WL K P N L) {n : Nat} (hn : n ≤ 200) : ∀ (j k f c : Nat) (σx σm : MS) (S : Row2), k + j = n → j < f → Both 46 σx σm K P N L S → RlB σx → S 3 5 + j < 3000 →
    ∃ c' σx' σm' S', b_X11_stopsInTrial_4 f (nI n) (nI c) (nI k) σx = some (nI c', σx') ∧ b_X12_goFor_4 f (nI n) (nI c) (nI k) σm = some (nI c', σm') ∧ Both 46 σx' σm' K P N L S' ∧ RlB σx' ∧ FX 46 σx σx' ∧ FM σm σm' ∧ S' 3 5 = S 3 5 + j ∧ c' ≤ c + 6 * j
  | 0, k, f + 1, c, σx, σm, S, hk, _, h, hB, hh => by
    refine ⟨c, σx, σm, S, ?_, ?_, h, hB, FX.refl _ _, FM.refl _, rfl, by omega⟩
    · unfold b_X11_stopsInTrial_4
      rw [q_le (by omega) (by omega), if_pos (by omega)]
    · unfold b_X12_goFor_4
      rw [q_le (by omega) (by omega), if_pos (by omega)]
  | j + 1, k, f + 1, c, σx, σm, S, hk, hj, h, hB, hh => by
    obtain ⟨m, σx1, σm1, S1, a1, a2, a3, a4, a5, a6, a7, _⟩ := hour_eq hW (Or.inr rfl) h hB (by omega)
    obtain ⟨c', σx2, σm2, S2, b1, b2, b3, b4, b5, b6, b7, b8⟩ := go_loop hW hn j (k + 1) f (c + pc m) σx1 σm1 S1 (by omega) (by omega) a4 (hB.fr a5.1) (by omega)
    have hp := b_pc_le m a3
    refine ⟨c', σx2, σm2, S2, ?_, ?_, b3, b4, a5.trans b5, a6.trans b6, by omega, by omega⟩
    · unfold b_X11_stopsInTrial_4
      rw [q_le (by omega) (by omega), if_neg (by omega), a1, bnd, x_bitCount m a3, bnd, nI_add, nI_1]
      exact b1
    · unfold b_X12_goFor_4
      rw [q_le (by omega) (by omega), if_neg (by omega), a2, bnd, nI_add, nI_1]
      exact b2
  | _, _, 0, _, _, _, _, _, hn, _, _, _ => absurd hn (Nat.not_lt_zero _)
theorem go_eq (hW : WL K P N L) {n : Nat} (hn : n ≤ 200) {σx σm : MS} {S : Row2} (h : Both 46 σx σm K P N L S) (hB : RlB σx) (hh : S 3 5 + n < 3000) : ∃ c' σx' σm' S', f_X11_stopsInTrial (nI n) σx = some (nI c', σx') ∧ f_X12_goFor (nI n) σm = some (nI c', σm') ∧ Both 46 σx' σm' K P N L S' ∧ RlB σx' ∧ FX 46 σx σx' ∧ FM σm σm' ∧ S' 3 5 = S 3 5 + n ∧ c' ≤ 6 * n := by
  have hF := FU_big
  have := go_loop hW hn n 0 FU 0 σx σm S (by omega) (by omega) h hB hh
  simp only [Nat.zero_add] at this
  exact this
end GO
end
