/-! ===== call 26: look ===== -/
section
theorem s_26 : StpK 26 := fun t a σx σm _ hI0 => by
  have hI1 := hI0
  obtain ⟨ow, W, Wi, RR, T, len, h1, h2, h3⟩ := hI0
  have hF := FU_big
  have hW := h3.2.2.1.1
  have hRR := h3.2.1.1
  have hv := h1.2.2.2.1.v
  have h01 := hW.1.1
  obtain ⟨⟨hK5, hP4, hN6, _⟩, _⟩ := hW.2.1.1
  show ∃ r σx' σm', f_X11_look (a 1) (a 2) σx = some (r, σx') ∧ f_X12_look (a 1) (a 2) σm = some (r, σm') ∧ Inv (t + 1) σx' σm'
  unfold f_X11_look b_X11_look_0 b_X11_look_32 f_X12_look b_X12_look_0 b_X12_look_29
  have fail : ∃ r σx' σm', some ((-1 : Int32), σx) = some (r, σx') ∧ some ((-1 : Int32), σm) = some (r, σm') ∧ Inv (t + 1) σx' σm' := ⟨-1, σx, σm, rfl, rfl, hI1.up (by omega)⟩
  rw [hv.1.1, h2.2.2.1.1.1, q_zero (by omega), q_zero (by omega)]
  by_cases h0 : wc W 0 = 0
  · rw [if_pos h0, if_pos h0]; exact fail
  rw [if_neg h0, if_neg h0]
  rcases m_in (a 1) (l := 0) (h := 60) 0 60 (by decide) (by decide) (by decide) (by decide) with ⟨g, e1⟩ | ⟨la, _, hla, ea, e1⟩
  · rw [e1, bnd, if_pos (show (0 : Int32) = 0 from rfl)]
    rcases g with g | g
    · rw [if_pos (show a 1 < 0 from g)]; exact fail
    · rw [if_pos (show (60 : Int32) < a 1 from g), ite_self]; exact fail
  rw [e1, bnd, if_neg one_ne, ea, q_nl_lt (by decide) (by omega), if_neg (by omega), q_ln_lt (by decide) (by omega), if_neg (by omega)]
  rcases m_in (a 2) (l := 0) (h := 1) 0 1 (by decide) (by decide) (by decide) (by decide) with ⟨g, e2⟩ | ⟨k, _, hk, ek, e2⟩
  · rw [e2, bnd, if_pos (show (0 : Int32) = 0 from rfl)]
    rcases g with g | g
    · rw [if_pos (show a 2 < 0 from g)]; exact fail
    · rw [if_neg (show ¬ a 2 ≤ 1 from le1 g), ite_self]; exact fail
  rw [e2, bnd, if_neg one_ne, ek, q_nl_lt (by decide) (by omega), if_neg (by omega), q_nl_le (by decide) (by omega), if_pos hk]
  obtain ⟨σ0, z1, z2, z3, z4⟩ := m_zero44 (y1 := nI la) (y2 := nI k) 30 0 FU σm (by omega) (by omega) (fun v hv => absurd hv (Nat.not_lt_zero _))
  obtain ⟨σ1, k1, k2, k3⟩ := m_keepsAll σ0
  have z1' : b_X12_look_33 FU (nI la) (nI k) 0 σm = _ := z1
  rw [z1', k1, bnd]
  have k2g := k2.g
  have kg : KG σm σ1 := ⟨⟨k2g.1.1.trans z2.1, k2g.1.2.1.trans z2.2.1, k2g.1.2.2.trans z2.2.2⟩, fun i q1 q2 => by rw [k2g.2.1 i q1 q2, z3 0 (by decide)], fun b q0 q1 q2 q3 q4 q5 => by rw [k2g.2.2.1 b q0 q1 q2 q3 q4 q5, z3 b q5.2.2], ⟨fun i hi => by rw [k2g.2.2.2.1.1 i hi, z3 1 (by decide)], fun i hi => by rw [k2g.2.2.2.1.2.1 i hi, z3 4 (by decide)], fun i hi => by rw [k2g.2.2.2.1.2.2.1 i hi, z3 9 (by decide)], fun i hi => by rw [k2g.2.2.2.1.2.2.2 i hi, z3 10 (by decide)]⟩, fun i hi => by rw [k2g.2.2.2.2 i hi, z3 45 (by decide)]⟩
  have kb : KB σm σ1 := ⟨fun i hi => by rw [k3.1 i hi, z3 1 (by decide)], fun i hi => by rw [k3.2.1 i hi, z3 4 (by decide)], fun i hi => by rw [k3.2.2.1 i hi, z3 9 (by decide)], fun i hi => by rw [k3.2.2.2 i hi, z3 10 (by decide)]⟩
  obtain ⟨r, σx', σ', q1, q2, q3, q4⟩ := look_loop h2 h3 hla (nI k) (RR.length + 1) 0 FU FU (fun _ => false) (fun _ _ => 0) σx σ1 h1 kg kb (by omega) (by omega) (by omega) (fun p hp => absurd hp (Nat.not_lt_zero _)) (fun v i hv hi => by
    rw [k2.2.2.1 44 (by decide) (by decide), z4 (5 * v + i) (by omega)]; rfl)
  exact ⟨r, σx', σ', q1, q2, (hI1.sc q3 q4.sc).up (by omega)⟩
end
