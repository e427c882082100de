/-! ===== pure: rule, in step ===== -/
section S3
theorem s_3 : StpS 3 := fun t a σx σm ht hI0 hsh => by
  have hF := FU_big
  have hI1 := hI0
  obtain ⟨ow, W, Wi, RR, T, len, h1, h2, h3⟩ := hI0
  have hW := h3.2.2.1.1
  have hl := h3.1.1
  have hT := h3.1.2
  have hR6 := h3.2.1.1
  show ∃ r σx' σm', f_X11_rule σx = some (r, σx') ∧ f_X12_rule σm = some (r, σm') ∧ Inv (t + 1) σx' σm'
  unfold f_X11_rule b_X11_rule_0 f_X12_rule b_X12_rule_0
  rw [h1.2.2.1.1, h2.2.1.1]
  by_cases c6 : RR.length = 6
  · rw [c6, if_neg (show ¬ nI 6 < (6 : Int32) by decide), if_pos (show nI 6 = (6 : Int32) from rfl)]
    exact ⟨-1, σx, σm, rfl, rfl, hI1.up (by omega)⟩
  have hr : RR.length < 6 := by omega
  rw [if_pos (by rw [show (6 : Int32) = nI 6 from rfl, nI_ltI (by omega) (by decide)]; exact hr), if_neg (by rw [show (6 : Int32) = nI 6 from rfl, nI_eq (by omega) (by decide)]; exact c6)]
  -- both begin
  obtain ⟨σx1, hx1⟩ : ∃ σ, σ = wI (wI (wI (wI σx 20 1 (0 : Int32)) 20 6 (0 : Int32)) 17 8 (0 : Int32)) 17 6 (0 : Int32) := ⟨_, rfl⟩
  obtain ⟨σm1, hm1⟩ : ∃ σ, σ = wI (wI (wI (wI (wI (wI σm 0 32 (nI RR.length)) 0 30 (0 : Int32)) 0 31 (0 : Int32)) 0 34 (0 : Int32)) 0 35 (0 : Int32)) 0 36 (0 : Int32) := ⟨_, rfl⟩
  have fx1 : FC σx σx1 := by
    rw [hx1]; exact (FC.w _ _ _ (by decide)).trans ((FC.w _ _ _ (by decide)).trans ((FC.w _ _ _ (by decide)).trans (FC.w _ _ _ (by decide))))
  have mn : ∀ b, b ≠ 0 → sI σm1 b = sI σm b := fun b hb => by rw [hm1, sI_wIn _ _ _ _ hb, sI_wIn _ _ _ _ hb, sI_wIn _ _ _ _ hb, sI_wIn _ _ _ _ hb, sI_wIn _ _ _ _ hb, sI_wIn _ _ _ _ hb]
  have m0 : ∀ j, j ≠ 30 → j ≠ 31 → j ≠ 32 → j ≠ 34 → j ≠ 35 → j ≠ 36 → sI σm1 0 j = sI σm 0 j := fun j q1 q2 q3 q4 q5 q6 => by rw [hm1, sI_wIk _ _ _ _ q6, sI_wIk _ _ _ _ q5, sI_wIk _ _ _ _ q4, sI_wIk _ _ _ _ q2, sI_wIk _ _ _ _ q1, sI_wIk _ _ _ _ q3]
  have smm : Sm σm σm1 := by rw [hm1]; exact ⟨rfl, rfl, rfl⟩
  have m32 : sI σm1 0 32 = nI RR.length := by rw [hm1, sI_wIk _ _ _ _ (by decide), sI_wIk _ _ _ _ (by decide), sI_wIk _ _ _ _ (by decide), sI_wIk _ _ _ _ (by decide), sI_wIk _ _ _ _ (by decide), sI_wIs]
  have m30 : sI σm1 0 30 = nI 0 := by rw [hm1, sI_wIk _ _ _ _ (by decide), sI_wIk _ _ _ _ (by decide), sI_wIk _ _ _ _ (by decide), sI_wIk _ _ _ _ (by decide), sI_wIs]; rfl
  have m31 : sI σm1 0 31 = 0 := by rw [hm1, sI_wIk _ _ _ _ (by decide), sI_wIk _ _ _ _ (by decide), sI_wIk _ _ _ _ (by decide), sI_wIs]
  have m34 : sI σm1 0 34 = nI 0 := by rw [hm1, sI_wIk _ _ _ _ (by decide), sI_wIk _ _ _ _ (by decide), sI_wIs]; rfl
  have m35 : sI σm1 0 35 = 0 := by rw [hm1, sI_wIk _ _ _ _ (by decide), sI_wIs]
  have m36 : sI σm1 0 36 = nI 0 := by rw [hm1, sI_wIs]; rfl
  have hRS : RSt T len RR.length 0 [] σx1 σm1 := by
    refine ⟨0, 0, ⟨TX.fc ⟨h1.2.1.1, h1.2.1.2⟩ fx1, ⟨by rw [m0 29 (by decide) (by decide) (by decide) (by decide) (by decide) (by decide)]; exact h2.1.1, by rw [mn 28 (by decide)]; exact h2.1.2⟩, Nat.zero_le _, ?_, m30, ?_, m31⟩, ?_, ⟨?_, fun i hi => absurd hi (Nat.not_lt_zero _)⟩, ⟨m32, m34, fun j hj => absurd hj (Nat.not_lt_zero _), m36, by rw [m0 38 (by decide) (by decide) (by decide) (by decide) (by decide) (by decide)]; exact h2.2.1.2.1⟩, m35, by decide, by decide, by decide, fun c hc => absurd hc (Nat.not_lt_zero _), fun c hc => by cases hc⟩
    · rw [hx1, sI_wIn _ _ _ _ (by decide), sI_wIn _ _ _ _ (by decide), sI_wIk _ _ _ _ (by decide), sI_wIs]; rfl
    · rw [hx1, sI_wIn _ _ _ _ (by decide), sI_wIn _ _ _ _ (by decide), sI_wIs]
    · rw [hx1, sI_wIs]; rfl
    · rw [hx1, sI_wIk _ _ _ _ (by decide), sI_wIs]; rfl
  obtain ⟨f, k', σx2, σm2, m, a1, a2, a3, a4, a5, a6⟩ := j_rule hl hT hr 12 0 FU FU 0 [] σx1 σm1 rfl rfl (by omega) (by omega) hRS
  have hxr : f_X7_read σx = some (nI f, σx2) := by
    unfold f_X7_read b_X7_read_0 f_X4_restart b_X4_restart_0
    rw [bnd, ← hx1]; exact a1
  have hmr : (f_X12_starts (wI σm 0 32 (nI RR.length))).bind (fun r16 => (b_X12_rule_27 FU ((0 : Int32)) ((1 : Int32)) r16)) = b_X12_rule_27 (m + 1) (nI k') 0 σm2 := by
    unfold f_X12_starts b_X12_starts_0
    rw [bnd, ← hm1]; exact a2
  have fcx := fx1.trans a3
  have n0 : ∀ j, (j < 30 ∨ j = 33 ∨ 37 < j) → sI σm2 0 j = sI σm 0 j := fun j hj => by rw [a4.2.2.1 j (by omega), m0 j (by omega) (by omega) (by omega) (by omega) (by omega) (by omega)]
  have n32 : sI σm2 0 32 = nI RR.length := by rw [a4.2.2.1 32 (by omega)]; exact m32
  have nn : ∀ b, b ≠ 0 → b ≠ 29 → b ≠ 30 → b ≠ 32 → b ≠ 33 → b ≠ 34 → b ≠ 35 → sI σm2 b = sI σm b := fun b q1 q2 q3 q4 q5 q6 q7 => by rw [a4.2.1 b q1 q2 q3 q4 q5 q6 q7, mn b q1]
  -- the reference's end
  obtain ⟨σm3, hm3⟩ : ∃ σ, σ = wI (wI σm2 0 29 (0 : Int32)) 31 RR.length (nI k') := ⟨_, rfl⟩
  have e31 : sI σm3 0 31 = sI σm2 0 31 := by rw [hm3, sI_wIn _ _ _ _ (by decide), sI_wIk _ _ _ _ (by decide)]
  have e33 : sI σm3 0 33 = nI RR.length := by rw [hm3, sI_wIn _ _ _ _ (by decide), sI_wIk _ _ _ _ (by decide), n0 33 (by omega)]; exact h2.2.1.1
  have hend : b_X12_rule_27 (m + 1) (nI k') 0 σm2 = (if (sI σm3 0 31) = 0 then (b_X12_rule_79 1 (nI RR.length) σm3) else (b_X12_rule_79 0 (nI RR.length) σm3)) := by
    show (if (0 : Int32) = 0 then _ else _) = _
    rw [if_pos rfl, show sI (wI σm2 0 29 (0 : Int32)) 0 32 = nI RR.length by rw [sI_wIk _ _ _ _ (by decide)]; exact n32, chk_t (in_n hr (by decide)), ix_n (by omega), ← hm3, e33]
  -- the tape is empty
  have hIX : IX t ow W Wi RR (fun _ => 0) 0 (wI σx2 1 1 0) := h1.tp fcx.1.1 fcx.1.2.1 (fun b _ => by show sR σx2 b = _; rw [fcx.1.2.2]) (fun b hb => by rw [sI_wIn _ _ _ _ (by omega), fcx.2 b (by omega) (by omega) (by omega) (by omega)]) (by rw [sI_wIn _ _ _ _ (by decide), fcx.2 0 (by decide) (by decide) (by decide) (by decide)]) (sI_wIs _ _ _ _) (fun i hi => absurd hi (Nat.not_lt_zero _))
  have hm : ∀ x : Int32, sI (wI σm3 0 33 x) 0 29 = 0 ∧ (∀ b, b ≠ 0 → b ≠ 29 → b ≠ 30 → b ≠ 31 → b ≠ 32 → b ≠ 33 → b ≠ 34 → b ≠ 35 → sI (wI σm3 0 33 x) b = sI σm b) ∧ (∀ j, (j < 29 ∨ 37 < j) → sI (wI σm3 0 33 x) 0 j = sI σm 0 j) := fun x => by
    refine ⟨by rw [sI_wIk _ _ _ _ (by decide), hm3, sI_wIn _ _ _ _ (by decide), sI_wIs], fun b q0 q1 q2 q3 q4 q5 q6 q7 => by rw [sI_wIn _ _ _ _ q0, hm3, sI_wIn _ _ _ _ q3, sI_wIn _ _ _ _ q0, nn b q0 q1 q2 q4 q5 q6 q7], fun j hj => by rw [sI_wIk _ _ _ _ (by omega), hm3, sI_wIn _ _ _ _ (by decide), sI_wIk _ _ _ _ (by omega), n0 j (by omega)]⟩
  have hold : ∀ (x : Int32) q, q < RR.length → RMr (wI σm3 0 33 x) q (RR.getD q []) := fun x q hq => by
    refine (h2.2.1.2.2 q hq).lt (r := RR.length) hq (fun i hi => ?_) (fun i hi => ?_) (fun i hi => ?_)
    · obtain ⟨g1, g2⟩ := a4.2.2.2.1 i hi
      rw [sI_wIn _ _ _ _ (show (29 : Nat) ≠ 0 by decide), sI_wIn _ _ _ _ (show (30 : Nat) ≠ 0 by decide), hm3, sI_wIn _ _ _ _ (show (29 : Nat) ≠ 31 by decide), sI_wIn _ _ _ _ (show (30 : Nat) ≠ 31 by decide), sI_wIn _ _ _ _ (show (29 : Nat) ≠ 0 by decide), sI_wIn _ _ _ _ (show (30 : Nat) ≠ 0 by decide), g1, g2, mn 29 (by decide), mn 30 (by decide)]
      exact ⟨rfl, rfl⟩
    · rw [sI_wIn _ _ _ _ (show (31 : Nat) ≠ 0 by decide), hm3, sI_wIk _ _ _ _ (by omega), sI_wIn _ _ _ _ (show (31 : Nat) ≠ 0 by decide), nn 31 (by decide) (by decide) (by decide) (by decide) (by decide) (by decide) (by decide)]
    · obtain ⟨g1, g2, g3⟩ := a4.2.2.2.2 i hi
      rw [sI_wIn _ _ _ _ (show (32 : Nat) ≠ 0 by decide), sI_wIn _ _ _ _ (show (33 : Nat) ≠ 0 by decide), sI_wIn _ _ _ _ (show (34 : Nat) ≠ 0 by decide), hm3, sI_wIn _ _ _ _ (show (32 : Nat) ≠ 31 by decide), sI_wIn _ _ _ _ (show (33 : Nat) ≠ 31 by decide), sI_wIn _ _ _ _ (show (34 : Nat) ≠ 31 by decide), sI_wIn _ _ _ _ (show (32 : Nat) ≠ 0 by decide), sI_wIn _ _ _ _ (show (33 : Nat) ≠ 0 by decide), sI_wIn _ _ _ _ (show (34 : Nat) ≠ 0 by decide), g1, g2, g3, mn 32 (by decide), mn 33 (by decide), mn 34 (by decide)]
      exact ⟨rfl, rfl, rfl⟩
  have hIMg : ∀ (x : Int32) (RR' : List (List Cls)), x = nI RR'.length → (∀ q, q < RR'.length → RMr (wI σm3 0 33 x) q (RR'.getD q [])) → IM W Wi RR' (fun _ => 0) 0 (wI σm3 0 33 x) := fun x RR' hx hq => by
    obtain ⟨g1, g2, g3⟩ := hm x
    obtain ⟨_, ⟨_, b4, _⟩, b6, b7⟩ := h2
    refine ⟨⟨g1, fun i hi => absurd hi (Nat.not_lt_zero _)⟩, ⟨by rw [sI_wIs]; exact hx, by rw [g3 38 (by omega)]; exact b4, hq⟩, b6.cg2 hW (g3 28 (by omega)) (g3 51 (by omega)) (fun r hr j _ _ _ _ _ _ _ _ => by rw [g2 r (by omega) (by omega) (by omega) (by omega) (by omega) (by omega) (by omega) (by omega)]), fun k hk => ⟨fun hn => ?_, fun V hV => ?_⟩⟩
    · rw [g2 46 (by decide) (by decide) (by decide) (by decide) (by decide) (by decide) (by decide) (by decide)]; exact (b7 k hk).1 hn
    · obtain ⟨k1, k2⟩ := (b7 k hk).2 V hV
      exact ⟨by rw [g2 46 (by decide) (by decide) (by decide) (by decide) (by decide) (by decide) (by decide) (by decide)]; exact k1, k2.img (h3.2.2.2 k V hk hV).1 (by rw [g2 47 (by decide) (by decide) (by decide) (by decide) (by decide) (by decide) (by decide) (by decide)]) (fun j _ _ => by rw [g2 45 (by decide) (by decide) (by decide) (by decide) (by decide) (by decide) (by decide) (by decide)])⟩
  rw [hxr, hmr, hend, bnd, e31]
  rcases a6 with ⟨f0, R', r1, r2⟩ | ⟨f0, f1⟩
  · subst f0
    have z31 : sI σm2 0 31 = 0 := r2.2.2.2.2.2.2
    show ∃ r σx' σm', (if nI 0 = 0 then _ else _) = _ ∧ _
    rw [if_pos (show nI 0 = 0 from rfl), if_pos z31]
    have hx2N : sN σx2 = sN (wI σx2 1 1 0) := rfl
    have b56 := hIX.1
    obtain ⟨L, hL⟩ : ∃ L, L = (codesOf R').length := ⟨_, rfl⟩
    have hcl := codesOf_len R'
    have hLb : L < 401 := by have := r2.1; have := r2.2.1; omega
    have hc8 : sI (wI σx2 1 1 0) 17 8 = nI L := by rw [sI_wIn _ _ _ _ (by decide), hL]; exact r2.2.2.1.1
    have h19 : ∀ i, i < L → sI (wI σx2 1 1 0) 19 i = encX ((codesOf R').getD i (0, 0)) := fun i hi => by rw [sI_wIn _ _ _ _ (by decide)]; exact r2.2.2.1.2 i (by omega)
    have h11 : sI (wI σx2 1 1 0) 0 11 = nI RR.length := hIX.2.2.1.1
    rw [hx2N]
    generalize wI σx2 1 1 0 = σ1 at *
    obtain ⟨σ4, d1, d2, d3, d4, d5, d6⟩ := x_newRule (σ := σ1) (L := L) (by omega) (by omega) hLb hc8
    have t4 : tfd σ4 (sN σ1) (10 + 6, 0) := ⟨by omega, d4⟩
    rw [chk_t (show sN σ1 < 1000000 by omega), d1, bnd, chk_t t4, h11, chk_t (in_n hr (by decide)), ix_n (by omega)]
    unfold b_X11_rule_76
    obtain ⟨σ5, h5⟩ : ∃ σ5, σ5 = wR σ4 21 RR.length (some (sN σ1)) := ⟨_, rfl⟩
    rw [← h5]
    have n5 : sN σ5 = sN σ1 + 2 := by rw [h5]; exact d2
    have s5 : ∀ p, p < sN σ1 → sS σ5 p = sS σ1 p := fun p hp => by rw [h5]; exact (d3 p hp).1
    have i5 : ∀ p, p < sN σ1 → sI σ5 p = sI σ1 p := fun p hp => by rw [h5, sI_wR]; exact (d3 p hp).2.1
    have r5 : ∀ p, p < sN σ1 → p ≠ 21 → sR σ5 p = sR σ1 p := fun p hp hq => by rw [h5, sR_wRn _ _ _ hq]; exact (d3 p hp).2.2
    have r21 : ∀ q, q ≠ RR.length → sR σ5 21 q = sR σ1 21 q := fun q hq => by rw [h5, sR_wRk _ _ _ hq, (d3 21 (by omega)).2.2]
    have e011 : sI σ5 0 11 = nI RR.length := by rw [i5 0 (by omega)]; exact h11
    rw [e011, nl_add]
    have w5 : ∀ p, p ≠ 0 → sI (wI σ5 0 11 (nI (RR.length + 1))) p = sI σ5 p := fun p hp => sI_wIn _ _ _ _ hp
    have wi : ∀ p, p < sN σ1 → p ≠ 0 → sI (wI σ5 0 11 (nI (RR.length + 1))) p = sI σ1 p := fun p hp h0 => by rw [w5 p h0, i5 p hp]
    have w011 : sI (wI σ5 0 11 (nI (RR.length + 1))) 0 11 = nI (RR.length + 1) := sI_wIs _ _ _ _
    have hfr : ∀ p, p < sN σ1 → (if p < sN σ1 then ow p else 10 + RR.length) = ow p := fun p hp => if_pos hp
    have hlRR : (RR ++ [R']).length = RR.length + 1 := by simp
    have hgo : ∀ q, q < RR.length → (RR ++ [R']).getD q [] = RR.getD q [] := fun q hq => by
      rw [List.getD_eq_getElem?_getD, List.getD_eq_getElem?_getD, List.getElem?_append_left hq]
    have hgn : (RR ++ [R']).getD RR.length [] = R' := by simp
    have h79 : b_X12_rule_79 1 (nI RR.length) σm3 = some (nI (RR.length + 1) - 1, wI σm3 0 33 (nI (RR.length + 1))) := by
      unfold b_X12_rule_79 b_X12_rule_106
      rw [nl_add, show sI (wI σm3 0 33 (nI (RR.length + 1))) 0 31 = 0 by rw [sI_wIk _ _ _ _ (by decide), e31]; exact z31, if_pos (show (0 : Int32) ≤ 0 by decide), sI_wIs]
    rw [h79, w011]
    refine ⟨_, _, _, rfl, rfl, fun p => if p < sN σ1 then ow p else 10 + RR.length, W, Wi, RR ++ [R'], fun _ => 0, 0, ⟨⟨by show 56 ≤ sN σ5; omega, by show sN σ5 ≤ _; omega⟩, ⟨by rw [wi 1 (by omega) (by decide)]; exact hIX.2.1.1, fun i hi => absurd hi (Nat.not_lt_zero _)⟩, ⟨by rw [w011, hlRR], fun q hq => ?_⟩, ?_, fun k hk => ⟨fun hn => ?_, fun V hV => ?_⟩⟩, ?_, ?_⟩
    · by_cases cq : q < RR.length
      · obtain ⟨d, k1, k2, k3, k4, k5⟩ := hIX.2.2.1.2 q cq
        obtain ⟨⟨q1, q2, q3⟩, q4, q5, q6⟩ := k3
        rw [hgo q cq]
        exact ⟨d, by show sR σ5 21 q = _; rw [r21 q (by omega)]; exact k1, k2, ⟨⟨by show d + 1 < sN σ5; omega, by show sS σ5 d = _; rw [s5 _ (by omega)]; exact q2, by show (sS σ5 (d + 1)).1 = 0; rw [s5 _ (by omega)]; exact q3⟩, by show (sS σ5 (d + 1)).2 = _; rw [s5 _ (by omega)]; exact q4, q5, by rw [wi _ (by omega) (by omega)]; exact q6⟩, (hfr _ (by omega)).trans k4, (hfr _ (by omega)).trans k5⟩
      · have eq : q = RR.length := by omega
        subst eq
        rw [hgn]
        refine ⟨sN σ1, by show sR σ5 21 _ = _; rw [h5, sR_wRs], b56.1, ⟨⟨by show sN σ1 + 1 < sN σ5; omega, by rw [show sS (wI σ5 0 11 (nI (RR.length + 1))) = sS σ4 by rw [h5]; rfl]; exact d4, by rw [show sS (wI σ5 0 11 (nI (RR.length + 1))) = sS σ4 by rw [h5]; rfl, d5]⟩, by rw [show sS (wI σ5 0 11 (nI (RR.length + 1))) = sS σ4 by rw [h5]; rfl, d5]; exact hL, by omega, fun i hi => ?_⟩, if_neg (by omega), if_neg (by omega)⟩
        rw [w5 _ (by omega), h5, sI_wR, d6 i (by omega)]
        exact h19 i (by omega)
    · exact hIX.2.2.2.1.fr (fun p q1 q2 => wi p (by omega) (by omega)) (by show sR σ5 _ = _; exact r5 _ (by omega) (by decide)) (by show sN σ1 ≤ sN σ5; omega) s5 (fun p q0 q2 _ _ => wi p q2 (by omega)) hfr
    · show sR σ5 43 k = none
      rw [r5 43 (by omega) (by decide)]; exact (hIX.2.2.2.2 k hk).1 hn
    · obtain ⟨d, k1, k2, k3, k4, k5⟩ := (hIX.2.2.2.2 k hk).2 V hV
      have hd21 : d + 21 ≤ sN σ1 := k3.1
      exact ⟨d, by show sR σ5 43 k = _; rw [r5 43 (by omega) (by decide)]; exact k1, k2, k3.fr (by show sN σ1 ≤ sN σ5; omega) s5, fun i hi => (hfr _ (by omega)).trans (k4 i hi), k5.fr (fun p q1 q2 => wi p (by omega) (by omega)) (by show sR σ5 _ = _; exact r5 _ (by omega) (by omega)) (by show sN σ1 ≤ sN σ5; omega) s5 (fun p q0 q2 _ _ => wi p q2 (by omega)) hfr⟩
    · refine hIMg (nI (RR.length + 1)) (RR ++ [R']) (by rw [hlRR]) (fun q hq => ?_)
      by_cases cq : q < RR.length
      · rw [hgo q cq]; exact hold _ q cq
      · have eq : q = RR.length := by omega
        subst eq
        rw [hgn]
        refine r2.rmr (by rw [sI_wIn _ _ _ _ (by decide), hm3, sI_wIs, r1]) (fun b hb => ?_)
        rw [sI_wIn _ _ _ _ (by omega), hm3, sI_wIn _ _ _ _ (by omega), sI_wIn _ _ _ _ (by omega)]
    · refine ⟨⟨by decide, fun i hi => absurd hi (Nat.not_lt_zero _)⟩, ⟨by omega, fun q hq => ?_⟩, ⟨hW, by have := h3.2.2.1.2; omega⟩, fun k V hk hV => ⟨(h3.2.2.2 k V hk hV).1, by have := (h3.2.2.2 k V hk hV).2; omega⟩⟩
      by_cases cq : q < RR.length
      · rw [hgo q cq]; exact h3.2.1.2 q cq
      · have eq : q = RR.length := by omega
        subst eq
        rw [hgn]; exact r2.2.2.2.2.2.1
  · have hne : ¬ nI f = 0 := by rw [n_zero (by omega)]; exact f0
    show ∃ r σx' σm', (if nI f = 0 then _ else _) = _ ∧ _
    rw [if_neg hne, f1, if_neg hne]
    have h79 : b_X12_rule_79 0 (nI RR.length) σm3 = some ((-2 : Int32) - nI f, wI σm3 0 33 (nI RR.length)) := by
      unfold b_X12_rule_79 b_X12_rule_106
      rw [show nI RR.length + (0 : Int32) = nI RR.length by rw [show (0 : Int32) = nI 0 from rfl, nI_add]; rfl, show sI (wI σm3 0 33 (nI RR.length)) 0 31 = nI f by rw [sI_wIk _ _ _ _ (by decide), e31]; exact f1, if_neg (by rw [nl_le (by decide) (by omega)]; omega)]
    rw [h79]
    exact ⟨_, _, _, rfl, rfl, Inv.up (t := t) ⟨ow, W, Wi, RR, _, _, hIX, hIMg (nI RR.length) RR rfl (hold _), ⟨⟨by decide, fun i hi => absurd hi (Nat.not_lt_zero _)⟩, h3.2⟩⟩ (by omega)⟩
end S3
