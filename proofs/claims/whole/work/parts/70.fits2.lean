/-! ===== pure: ruled, its two calls ===== -/
section
section RU
variable {t : Nat} {ow : Nat → Nat} {W : Wd} {Wi : Nat → Option Wd} {RR : List (List Cls)} {T : Nat → Nat} {len : Nat} {σm : MS}
theorem x_start0 {σx : MS} (hx : IX t ow W Wi RR T len σx) (hR : RR.length ≤ 6) {q : Nat} (hq : q ≤ RR.length) : ∃ o σ1, f_X11_ruleNumbered (hI q) σx = some o ∧ f_X8_copyFrom 46 31 (wI (wR σx 44 2 o) 44 3 (-1)) = some σ1 ∧ ScX σx σ1 ∧ SX 46 σ1 (wB W) ∧ sI σ1 44 3 = -1 ∧ sI σ1 55 = sI σx 55 ∧ ((q = 0 ∧ sR σ1 44 2 = none) ∨ (q ≠ 0 ∧ ∃ b, sR σ1 44 2 = some b ∧ 56 ≤ b ∧ RXc σ1 b (codesOf (RR.getD (q - 1) [])))) := by
  obtain ⟨o, e1, e2⟩ := x_ruleNumbered hx hR hq
  have hS : SX 31 (wI (wR σx 44 2 o) 44 3 (-1)) (wB W) := (show SX 31 σx (wB W) from hx.2.2.2.1.2.1).fr (fun b q1 q2 => by rw [sI_wIn _ _ _ _ (by omega)]; rfl)
  obtain ⟨σ1, c1, c2, c3⟩ := x_copy (a0 := 46) hS (by decide)
  have sc0 : ScX σx (wI (wR σx 44 2 o) 44 3 (-1)) := by
    refine ⟨rfl, rfl, fun b hb => ?_, fun b hb => ?_, ?_⟩
    · funext j; show sR (wR σx 44 2 o) b j = sR σx b j; rw [sR_wR, if_neg hb]
    · rw [sI_wIn _ _ _ _ (by omega)]; rfl
    · rw [sI_wIn _ _ _ _ (by decide)]; rfl
  have sc : ScX σx σ1 := sc0.trans c3.sc
  have e44 : sR σ1 44 2 = o := by rw [c3.1.2.2]; show sR (wR σx 44 2 o) 44 2 = o; rw [sR_wR, if_pos rfl, if_pos rfl]
  refine ⟨o, σ1, e1, c1, sc, c2, by rw [c3.2 44 (by omega), sI_wIs], by rw [c3.2 55 (by omega), sI_wIn _ _ _ _ (by decide)]; rfl, ?_⟩
  rcases e2 with ⟨q1, q2⟩ | ⟨q1, b, q2, q3, q4⟩
  · exact Or.inl ⟨q1, by rw [e44, q2]⟩
  · refine Or.inr ⟨q1, b, by rw [e44, q2], q3, ?_⟩
    obtain ⟨⟨r1, r2, r3⟩, r4, r5, r6⟩ := q4
    exact ⟨⟨by rw [sc.1]; exact r1, by rw [sc.2.1]; exact r2, by rw [sc.2.1]; exact r3⟩, by rw [sc.2.1]; exact r4, r5, by rw [sc.2.2.2.1 (b + 1) (by omega)]; exact r6⟩
theorem fits_eq (hm : IM W Wi RR T len σm) (ho : OKW W Wi RR T len) {σx σ1 : MS} (hx : IX t ow W Wi RR T len σx) (hk : KG σm σ1) (hb : KB σm σ1) {q la : Nat} {y2 : Int32} (hq : q ≤ RR.length) (hla : la ≤ 60) (hy : y2 = nI la ∨ y2 = -1) :
    ∃ b σx' σ3, b ≤ 1 ∧ f_X11_fitsLogs (hI q) (nI la) σx = some (nI b, σx') ∧ f_X12_couldRule (hI q) y2 σ1 = some (nI b, σ3) ∧ ScX σx σx' ∧ KG σm σ3 ∧ KB σm σ3 ∧ sI σ3 44 = sI σ1 44 ∧ (b = 1 → y2 = nI la → Sh W q σx' σ3) ∧ (∀ i, i < q * 6 ∨ q * 6 + 6 ≤ i → sI σx' 55 i = sI σx 55 i) := by
  have hF := FU_big
  have hW := ho.2.2.1.1
  have hRR := ho.2.1.1
  obtain ⟨⟨hK5, hP4, hN6, hf⟩, _⟩ := hW.2.1.1
  have h10 := hW.1.2.2.2.1
  obtain ⟨hB1, hB5, hB3, hB0⟩ := hW.2.2.2.1
  obtain ⟨o, σx1, a1, a2, a3, a4, a5, a6, a7⟩ := x_start0 hx hRR hq
  have hk9 : ∀ b, b ≠ 1 → sI (wI σ1 1 9 (hI q)) b = sI σ1 b := fun b hb => sI_wIn _ _ _ _ hb
  have mw := hm.2.2.1
  have kg3 := hk.2.2.1
  obtain ⟨σ2, b1, b2, b3⟩ := m_begins (σ := wI σ1 1 9 (hI q)) (P := wc W 2) (N := wc W 3) (S := wB W) (fun p hp => by rw [hk9 15 (by decide), kg3 15 (by decide) (by decide) (by decide) (by decide) (by decide) (by decide)]; exact mw.2.2.1.1 p hp) (fun w hw => by rw [hk9 16 (by decide), kg3 16 (by decide) (by decide) (by decide) (by decide) (by decide) (by decide)]; exact mw.2.2.1.2.1 w hw) (by rw [hk9 17 (by decide), kg3 17 (by decide) (by decide) (by decide) (by decide) (by decide) (by decide)]; exact mw.2.2.1.2.2) hP4 hN6 hB3 hB5 hB0
  have hLm0 : LM σ1 (wc W 1) (wc W 2) (wc W 3) (wL W) := mw.1.2.kg hK5 hP4 hN6 hk
  have hLm : LM σ2 (wc W 1) (wc W 2) (wc W 3) (wL W) := by
    refine LM.fr (σ := wI σ1 1 9 (hI q)) ?_ b2
    obtain ⟨⟨c1, c2, c3, c4⟩, c5, c6, c7⟩ := hLm0
    exact ⟨⟨by rw [sI_wIk _ _ _ _ (by decide)]; exact c1, by rw [sI_wIk _ _ _ _ (by decide)]; exact c2, by rw [sI_wIk _ _ _ _ (by decide)]; exact c3, by rw [sI_wIk _ _ _ _ (by decide)]; exact c4⟩, fun q hq => by rw [hk9 2 (by decide), hk9 3 (by decide)]; exact c5 q hq, fun q hq => by rw [hk9 5 (by decide), hk9 6 (by decide), hk9 7 (by decide)]; exact c6 q hq, fun q hq => by rw [hk9 8 (by decide), hk9 11 (by decide)]; exact c7 q hq⟩
  have hL : LX 23 σx (wc W 1) (wc W 2) (wc W 3) (wL W) := hx.2.2.2.1.1.2
  obtain ⟨r1, r2⟩ := rl_of (σ2 := σ2) hRR ho.2.1.2 hq a7 (by rw [b2.2.2 9 (by decide) (by decide) (by decide), sI_wIs]) (fun r hr => (hm.2.1.2.2 r hr).fr (fun b q1 q2 => by rw [b2.2.1 b (by omega) (by omega) (by omega) (by omega), hk9 b (by omega), kg3 b (by omega) (by omega) (by omega) (by omega) (by omega) (by omega)]))
  have hB : Both 46 σx1 σ2 (wc W 1) (wc W 2) (wc W 3) (wL W) (wB W) := ⟨(hL.fr (fun b q1 q2 => a3.2.2.2.1 b (by omega))).h hP4 a5, hLm, a4, b3, hB1, r1⟩
  have hgx0 : LgX σx W := ⟨hx.2.2.2.1.2.2.2.1.2.2.1, hx.2.2.2.1.2.2.2.2.1⟩
  have hgx := hgx0.sc a3
  have hgm : LgM σ2 W := by
    refine ⟨?_, fun i hi => ?_⟩
    · rw [b2.2.2 7 (by decide) (by decide) (by decide), sI_wIk _ _ _ _ (by decide), hk.2.2.2.1.1 7 (by decide)]; exact mw.2.2.2.1.2.2.1
    · rw [b2.2.1 12 (by decide) (by decide) (by decide) (by decide), b2.2.1 13 (by decide) (by decide) (by decide) (by decide), b2.2.1 14 (by decide) (by decide) (by decide) (by decide), hk9 12 (by decide), hk9 13 (by decide), hk9 14 (by decide), kg3 12 (by decide) (by decide) (by decide) (by decide) (by decide) (by decide), kg3 13 (by decide) (by decide) (by decide) (by decide) (by decide) (by decide), kg3 14 (by decide) (by decide) (by decide) (by decide) (by decide) (by decide)]; exact mw.2.2.2.2.1 i hi
  obtain ⟨ml, m1, m2, m3⟩ := x_lastLog hgx.1 h10 (fun i hi => (hgx.2 i hi).1) (fun i hi => (hW.2.2.2.2.2 i hi).1) (wc W 6) 0 FU 0 (by omega) (by omega) (by omega) (fun q h => absurd h (by omega))
  obtain ⟨b, σx', σ4, d1, d2, d3, d4, d5, d6, d7, d8⟩ := fits_loop hW (q := q) (la := la) (hrs := max la ml + 1) (y2 := y2) (by omega) (by omega) (by omega) (fun i hi => by have := m3 i hi; omega) hy (max la ml + 1) 0 FU FU σx1 σ2 (wB W) (by omega) (by omega) (by omega) hB r2 hB5 hgx hgm (fun z => absurd z (by omega))
  have f2 : F2 σ1 σ4 := (show F2 σ1 (wI σ1 1 9 (hI q)) from ⟨⟨rfl, rfl, rfl⟩, fun b h1 _ _ _ => hk9 b h1⟩).trans (b2.f2.trans d5)
  obtain ⟨σ3, g1, g2, g3⟩ := back_kg hk hb f2
  have e45 := f2.2 45 (by decide) (by decide) (by decide) (by decide)
  have hb4 : KB σm σ4 := by unfold KB; rw [e45]; exact hb
  obtain ⟨σ3', l1, _, _, l4, _⟩ := m_laysBack hb4
  rw [g1] at l1
  cases l1
  refine ⟨b, σx', σ3, d1, ?_, ?_, a3.trans d4, g2, g3, ?_, fun hb1 e => ?_, fun i hi => by rw [d8 i hi, a6]⟩
  · unfold f_X11_fitsLogs b_X11_fitsLogs_0
    have m1' : f_X10_lastLog σx1 = some (nI ml) := m1
    rw [a1, bnd, x_follow, bnd, a2, bnd, m1', bnd, x_max (by omega) (by omega), bnd, nI_1]
    exact d2
  · unfold f_X12_couldRule b_X12_couldRule_0
    rw [b1, bnd]
    have d3' : b_X12_couldRule_17 FU y2 1 0 σ2 = _ := d3
    rw [d3', g1, bnd, chk_t]
    rcases (by omega : b = 0 ∨ b = 1) with rfl | rfl
    · exact Or.inl rfl
    · exact Or.inr rfl
  · rw [l4 44 (by decide) (by decide) (by decide) (by decide) (by decide), d6, b2.2.1 44 (by decide) (by decide) (by decide) (by decide), hk9 44 (by decide)]
  · obtain ⟨H, k1, k2, k3⟩ := d7 hb1 e
    exact ⟨H, k1, fun w hw => by rw [l4 43 (by decide) (by decide) (by decide) (by decide) (by decide)]; exact k2 w hw, k3⟩
theorem ruled_loop (hm : IM W Wi RR T len σm) (ho : OKW W Wi RR T len) (y1 : Int32) : ∀ (j q fx fm c : Nat) (y3 : Int32) (σx σ1 : MS), IX t ow W Wi RR T len σx → KG σm σ1 → KB σm σ1 → q + j = RR.length + 1 → j < fx → j < fm → c ≤ q →
    ∃ r σx' σ', b_X11_ruled_33 fx y1 (nI c) y3 (hI q) σx = some (r, σx') ∧ b_X12_ruled_32 fm y1 (nI c) y3 (hI q) σ1 = some (r, σ') ∧ ScX σx σx' ∧ KG σm σ'
  | 0, q, fx + 1, fm + 1, c, y3, σx, σ1, hx, hk, hb, hj, _, _, hc => by
    have hRR := ho.2.1.1
    have ex : sI σx 0 11 = nI RR.length := hx.2.2.1.1
    have em : sI σ1 0 33 = nI RR.length := by rw [hk.2.1 33 (by decide) (by decide)]; exact hm.2.1.1
    have cl : nI RR.length ≤ hI q := (nh_le (by omega) (by omega)).mpr (by omega)
    have key : ∃ r, b_X11_ruled_33 (fx + 1) y1 (nI c) y3 (hI q) σx = some (r, σx) ∧ b_X12_ruled_32 (fm + 1) y1 (nI c) y3 (hI q) σ1 = some (r, σ1) := by
      unfold b_X11_ruled_33 b_X12_ruled_32 b_X11_ruled_81 b_X12_ruled_80
      rw [ex, em, if_pos cl, if_pos cl]
      by_cases h : y1 = 0
      · exact ⟨_, by rw [if_pos h], by rw [if_pos h]⟩
      · exact ⟨_, by rw [if_neg h], by rw [if_neg h]⟩
    obtain ⟨r, k1, k2⟩ := key
    exact ⟨r, σx, σ1, k1, k2, ScX.refl _, hk⟩
  | j + 1, q, fx + 1, fm + 1, c, y3, σx, σ1, hx, hk, hb, hj, h1, h2, hc => by
    have hRR := ho.2.1.1
    have ex : sI σx 0 11 = nI RR.length := hx.2.2.1.1
    have em : sI σ1 0 33 = nI RR.length := by rw [hk.2.1 33 (by decide) (by decide)]; exact hm.2.1.1
    have cl : ¬ nI RR.length ≤ hI q := fun h => by have := (nh_le (by omega) (by omega)).mp h; omega
    obtain ⟨b, σx2, σ3, d1, d2, d3, d4, d5, d6, _, _, _⟩ := fits_eq hm ho hx hk hb (show q ≤ RR.length by omega) (show 0 ≤ 60 by omega) (Or.inr rfl)
    have d2' : f_X11_fitsLogs (hI q) 0 σx = some (nI b, σx2) := d2
    have step : ∀ c' y3', c' ≤ q + 1 → ∃ r σx' σ', b_X11_ruled_33 fx y1 (nI c') y3' (hI (q + 1)) σx2 = some (r, σx') ∧ b_X12_ruled_32 fm y1 (nI c') y3' (hI (q + 1)) σ3 = some (r, σ') ∧ ScX σx σx' ∧ KG σm σ' := fun c' y3' hc' => by
      obtain ⟨r, σx', σ', k1, k2, k3, k4⟩ := ruled_loop hm ho y1 j (q + 1) fx fm c' y3' σx2 σ3 (hx.sc d4) d5 d6 (by omega) (by omega) (by omega) hc'
      exact ⟨r, σx', σ', k1, k2, d4.trans k3, k4⟩
    unfold b_X11_ruled_33 b_X12_ruled_32 b_X11_ruled_62 b_X11_ruled_66 b_X12_ruled_61 b_X12_ruled_65
    rw [ex, em, if_neg cl, if_neg cl, d2', d3, bnd, bnd, hI_1, nI_1]
    rcases (by omega : b = 0 ∨ b = 1) with rfl | rfl
    · simp only [if_pos (show nI 0 = 0 from rfl)]
      exact step c y3 (by omega)
    · simp only [if_neg (show ¬ nI 1 = 0 by decide)]
      by_cases h0 : nI c = 0
      · simp only [if_pos h0]
        exact step (c + 1) (hI q) (by omega)
      · simp only [if_neg h0]
        exact step (c + 1) y3 (by omega)
  | _, _, 0, _, _, _, _, _, _, _, _, _, hn, _, _ => absurd hn (Nat.not_lt_zero _)
  | _, _, _, 0, _, _, _, _, _, _, _, _, _, hn, _ => absurd hn (Nat.not_lt_zero _)
end RU
theorem s_25 : StpK 25 := fun t a σx σm _ hI0 => by
  have hI1 := hI0
  obtain ⟨ow, W, Wi, RR, T, len, h1, h2, h3⟩ := hI0
  have hF := FU_big
  have hW := h3.2.2.1.1
  have hRR := h3.2.1.1
  have hv := h1.2.2.2.1.v
  have h01 := hW.1.1
  show ∃ r σx' σm', f_X11_ruled (a 1) σx = some (r, σx') ∧ f_X12_ruled (a 1) σm = some (r, σm') ∧ Inv (t + 1) σx' σm'
  unfold f_X11_ruled b_X11_ruled_0 b_X11_ruled_22 f_X12_ruled b_X12_ruled_0 b_X12_ruled_17
  have fail : ∃ r σx' σm', some ((-3 : Int32), σx) = some (r, σx') ∧ some ((-3 : Int32), σm) = some (r, σm') ∧ Inv (t + 1) σx' σm' := ⟨-3, σx, σm, rfl, rfl, hI1.up (by omega)⟩
  rw [hv.1.1, h2.2.2.1.1.1, q_zero (by omega), q_zero (by omega)]
  by_cases h0 : wc W 0 = 0
  · rw [if_pos h0, if_pos h0]; exact fail
  rw [if_neg h0, if_neg h0]
  rcases w_what (a 1) with ⟨j, hj, ej, g⟩ | ⟨g1, g2⟩
  · obtain ⟨σ1, k1, k2, k3⟩ := m_keepsAll σm
    rw [g, bnd, if_neg one_ne, k1, bnd, ej, if_neg (nI_pos (by omega)), q_nl_le (by decide) (by omega), if_pos hj]
    obtain ⟨r, σx', σ', q1, q2, q3, q4⟩ := ruled_loop h2 h3 (nI j) (RR.length + 1) 0 FU FU 0 (-2) σx σ1 h1 k2.g k3 (by omega) (by omega) (by omega) (by omega)
    exact ⟨r, σx', σ', q1, q2, (hI1.sc q3 q4.sc).up (by omega)⟩
  · rw [g2, bnd, if_pos rfl]
    rcases g1 with g1 | g1
    · rw [if_pos g1]; exact fail
    · rw [if_neg (le1 g1), ite_self]; exact fail
end
