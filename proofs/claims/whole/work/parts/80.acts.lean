/-! ===== pure: hour, begin, sneak, hand, drop ===== -/
section
theorem act_fin {t : Nat} {ow : Nat → Nat} {W : Wd} {Wi : Nat → Option Wd} {RR : List (List Cls)} {T : Nat → Nat} {len : Nat} {σx σm σx' σm' : MS} {S : Row2} (hx : IX t ow W Wi RR T len σx) (hm : IM W Wi RR T len σm) (ho : OKW W Wi RR T len) (fx : FX 35 σx σx') (fm : FM σm σm') (sx : SX 35 σx' S) (sm : SM σm' (wc W 2) (wc W 3) S) (hV : WS (wc W 2) (wc W 3) S) (h9 : S 3 5 ≤ 999) : Inv t σx' σm' :=
  ⟨ow, wPut W S, Wi, RR, T, len, hx.put ho.2.1.1 fx sx, hm.put (fun k V hk hV => (ho.2.2.2 k V hk hV).1) fm sm, ho.1, ho.2.1, ⟨ho.2.2.1.1.put hV h9, ho.2.2.1.2⟩, ho.2.2.2⟩
theorem s_8 : StpS 8 := fun t a σx σm ht hI0 hsh => by
  have hI1 := hI0
  obtain ⟨ow, W, Wi, RR, T, len, h1, h2, h3⟩ := hI0
  have hW := h3.2.2.1.1
  obtain ⟨⟨hK5, hP4, hN6, hf⟩, _⟩ := hW.2.1.1
  have e0 : sI σx 23 0 = nI (wc W 0) := h1.2.2.2.1.1.1
  have e0m : sI σm 0 28 = nI (wc W 0) := h2.2.2.1.1.1
  have e5 : sI σx 35 5 = nI (wS W 3 5) := h1.2.2.2.1.2.2.1.2.2.2.2
  have e5m : sI σm 1 5 = nI (wS W 3 5) := h2.2.2.1.2.1.2.2.2.2
  have h01 := hW.1.1
  have h999 := hW.2.2.1.2
  show ∃ r σx' σm', f_X11_hour σx = some (r, σx') ∧ f_X12_hour σm = some (r, σm') ∧ Inv (t + 1) σx' σm'
  have fail : ∃ r σx' σm', b_X11_hour_29 σx = some (r, σx') ∧ b_X12_hour_19 σm = some (r, σm') ∧ Inv (t + 1) σx' σm' := ⟨-1, σx, σm, rfl, rfl, hI1.up (by omega)⟩
  unfold f_X11_hour b_X11_hour_0 f_X12_hour b_X12_hour_0
  rw [e0, e0m, e5, e5m, q_zero (by omega), q_zero (by omega), q_nl_lt (by decide) (by omega), q_nl_eq (by decide) (by omega)]
  by_cases hz : wc W 0 = 0
  · rw [if_pos hz, if_pos hz]; exact fail
  · rw [if_neg hz, if_neg hz]
    by_cases h9 : wS W 3 5 < 999
    · rw [if_pos h9, if_neg (by omega)]
      obtain ⟨σx1, σm1, ow', k1, k2, k3, k4, k5⟩ := keep2 h1 h2 h3 hsh ht
      have hW' := k5.2.2.1.1
      obtain ⟨o, o1, o2⟩ := x_ruleNumbered k3 k5.2.1.1 k5.2.2.1.2
      have e9 : sI σx1 22 9 = hI (wc (wRem W) 4) := k3.2.2.2.1.2.2.2.1.1
      obtain ⟨σx2, hσ⟩ : ∃ σ2, σ2 = wI (wR σx1 44 2 o) 44 3 (-1) := ⟨_, rfl⟩
      have sc : ScX σx1 σx2 := by
        rw [hσ]
        refine ⟨rfl, rfl, fun b hb => ?_, fun b hb => ?_, ?_⟩
        · funext j; show sR (wR σx1 44 2 o) b j = sR σx1 b j; rw [sR_wR, if_neg hb]
        · rw [sI_wIn _ _ _ _ (by omega)]; rfl
        · rw [sI_wIn _ _ _ _ (by decide)]; rfl
      have e44 : sR σx2 44 2 = o := by rw [hσ]; show sR (wR σx1 44 2 o) 44 2 = o; rw [sR_wR, if_pos rfl, if_pos rfl]
      have k3' := k3.sc sc
      have o2' : (wc (wRem W) 4 = 0 ∧ sR σx2 44 2 = none) ∨ (wc (wRem W) 4 ≠ 0 ∧ ∃ b, sR σx2 44 2 = some b ∧ 56 ≤ b ∧ RXc σx2 b (codesOf (RR.getD (wc (wRem W) 4 - 1) []))) := by
        rcases o2 with ⟨q1, q2⟩ | ⟨q1, b, q2, q3, q4⟩
        · exact Or.inl ⟨q1, by rw [e44, q2]⟩
        · refine Or.inr ⟨q1, b, by rw [e44, q2], q3, ?_⟩
          obtain ⟨⟨r1, r2, r3⟩, r4, r5, r6⟩ := q4
          exact ⟨⟨by rw [sc.1]; exact r1, by rw [sc.2.1]; exact r2, by rw [sc.2.1]; exact r3⟩, by rw [sc.2.1]; exact r4, r5, by rw [sc.2.2.2.1 (b + 1) (by omega)]; exact r6⟩
      obtain ⟨b1, b2⟩ := rl_of (σ2 := σm1) k5.2.1.1 k5.2.1.2 k5.2.2.1.2 o2' k4.2.2.1.2.2.2.1.1 k4.2.1.2.2
      have hL : LX 23 σx2 (wc (wRem W) 1) (wc (wRem W) 2) (wc (wRem W) 3) (wL (wRem W)) := k3'.2.2.2.1.1.2
      have hB : Both 35 σx2 σm1 (wc (wRem W) 1) (wc (wRem W) 2) (wc (wRem W) 3) (wL (wRem W)) (wS W) := ⟨hL.h hW'.2.1.1.1.2.1 (by rw [hσ, sI_wIs]), k4.2.2.1.1.2, k3'.2.2.2.1.2.2.1, k4.2.2.1.2.1, hW'.2.2.1.1, b1⟩
      obtain ⟨m, σx3, σm2, S', c1, c2, c3, c4, c5, c6, c7, _⟩ := hour_eq hW'.2.1.1 (Or.inl rfl) hB b2 (by omega)
      refine ⟨nI (pc m), σx3, σm2, ?_, ?_, ?_⟩
      · rw [k1, bnd, e9, o1, bnd, x_follow, bnd, ← hσ, c1, bnd, x_bitCount m c3]; rfl
      · rw [k2, bnd, c2]; rfl
      · exact act_fin k3' k4 k5 c5 c6 c4.2.2.1 c4.2.2.2.1 c4.2.2.2.2.1 (by omega)
    · rw [if_neg h9, if_pos (by omega)]; exact fail
section FF
variable {σx σm : MS} {W : Wd}
theorem m_ch0 {x y : Int32} (h : f_X12_isWork y σm = some 0) : f_X12_couldHold y x σm = some 0 := by
  unfold f_X12_couldHold b_X12_couldHold_0
  rw [h]; rfl
/-- who can take a work -/
theorem w_free (hx : VX σx W) (hm : MW σm W) (hW : WW W) (x : Int32) : (∃ q, q < wc W 2 ∧ x = nI q ∧ f_X11_isAwake x σx = some 1 ∧ f_X11_hasHandFree x σx = some 1 ∧ ∀ y, f_X12_isWork y σm = some 1 → f_X12_couldHold y x σm = some 1) ∨ ((f_X11_isAwake x σx = some 0 ∨ (f_X11_isAwake x σx = some 1 ∧ f_X11_hasHandFree x σx = some 0)) ∧ ∀ y, f_X12_isWork y σm = some 1 → f_X12_couldHold y x σm = some 0) := by
  obtain ⟨⟨hK5, hP4, hN6, hf⟩, hW2, hW3, hW4⟩ := hW.2.1.1
  have hV := hW.2.2.1.1
  have h999 := hW.2.2.1.2
  rcases w_isPerson hx.1.2.1.2.1 hm.1.2.1.2.1 (by omega) x with ⟨q, h1, rfl, h2, h3⟩ | ⟨h2, h3⟩
  · have a1 := hx.1.2.2.2.1 q h1
    have a2 := hm.1.2.2.2.1 q h1
    have e35 : sI σx 35 5 = nI (wS W 3 5) := hx.2.2.1.2.2.2.2
    have em5 : sI σm 1 5 = nI (wS W 3 5) := hm.2.1.2.2.2.2
    have ea : f_X3_isAsleep (nI q) (nI (wS W 3 5)) σx = some (nI (asl (wL W 2 q) (wL W 3 q) (wS W 3 5))) := x_asleep (by omega) a1.1 a1.2.1 (hW3 q h1).1 (hW3 q h1).2.1 (by omega)
    have eam : f_X12_isAsleep (nI q) (nI (wS W 3 5)) σm = some (nI (asl (wL W 2 q) (wL W 3 q) (wS W 3 5))) := m_asleep (by omega) a2.1 a2.2.1 (hW3 q h1).1 (hW3 q h1).2.1 (by omega)
    have eh := m_hasHand hm.1.2 hW.2.1.1 hm.2.1 hV h1
    have el := x_load hx.2.2.1 (hV.hs hP4) (q := q) (by omega)
    have bj : inb (nI q) 4 := in_n (by omega) (by decide)
    have e28 : sI σx 28 q = nI (wL W 4 q) := a1.2.2
    have h4 := (hW3 q h1).2.2
    have hc6 := cntB_le (hb (wS W) q) 6
    rcases asl_01 (wL W 2 q) (wL W 3 q) (wS W 3 5) with h | h
    · have ew : f_X11_isAwake (nI q) σx = some 1 := by
        unfold f_X11_isAwake b_X11_isAwake_0
        rw [h2, bnd, if_neg one_ne, e35, ea, bnd, h]; rfl
      by_cases hc : cntB (hb (wS W) q) 6 < wL W 4 q
      · refine Or.inl ⟨q, h1, rfl, ew, ?_, fun y hy => ?_⟩
        · unfold f_X11_hasHandFree b_X11_hasHandFree_0
          rw [h2, bnd, if_neg one_ne, el, bnd, chk_t bj, ix_n (by omega), e28, q_le (by omega) (by omega), if_neg (by omega)]; rfl
        · unfold f_X12_couldHold b_X12_couldHold_0
          rw [hy, bnd, if_neg one_ne, h3, bnd, if_neg one_ne, em5, eam, bnd, h, eh, if_pos hc]; rfl
      · refine Or.inr ⟨Or.inr ⟨ew, ?_⟩, fun y hy => ?_⟩
        · unfold f_X11_hasHandFree b_X11_hasHandFree_0
          rw [h2, bnd, if_neg one_ne, el, bnd, chk_t bj, ix_n (by omega), e28, q_le (by omega) (by omega), if_pos (by omega)]; rfl
        · unfold f_X12_couldHold b_X12_couldHold_0
          rw [hy, bnd, if_neg one_ne, h3, bnd, if_neg one_ne, em5, eam, bnd, h, eh, if_neg hc]; rfl
    · refine Or.inr ⟨Or.inl ?_, fun y hy => ?_⟩
      · unfold f_X11_isAwake b_X11_isAwake_0
        rw [h2, bnd, if_neg one_ne, e35, ea, bnd, h]; rfl
      · unfold f_X12_couldHold b_X12_couldHold_0
        rw [hy, bnd, if_neg one_ne, h3, bnd, if_neg one_ne, em5, eam, bnd, h]; rfl
  · refine Or.inr ⟨Or.inl ?_, fun y hy => ?_⟩
    · unfold f_X11_isAwake b_X11_isAwake_0
      rw [h2]; rfl
    · unfold f_X12_couldHold b_X12_couldHold_0
      rw [hy, bnd, if_neg one_ne, h3]; rfl
theorem x_goes (hx : VX σx W) (hW : WW W) {w : Nat} (hw : w < wc W 3) (h : f_X11_isWork (nI w) σx = some 1) : f_X11_goes (nI w) σx = some (if wS W 0 w = 0 then 0 else 1) := by
  obtain ⟨⟨hK5, hP4, hN6, hf⟩, _⟩ := hW.2.1.1
  have ex : sI σx 36 w = hI (wS W 0 w) := (hx.2.2.1.1 w (by omega)).1
  have hb := (hW.2.2.1.1.1 w (by omega)).1
  unfold f_X11_goes b_X11_goes_0
  rw [h, bnd, if_neg one_ne, chk_t (in_n (show w < 6 by omega) (by decide)), ix_n (by omega), ex, q_none (by omega)]
  by_cases h0 : wS W 0 w = 0
  · rw [if_pos h0, if_pos h0]; rfl
  · rw [if_neg h0, if_neg h0]; rfl
/-- a work that lies, somebody who can take it; or neither side starts -/
theorem w_start (hx : VX σx W) (hm : MW σm W) (hW : WW W) (x y : Int32) : (∃ w q, w < wc W 3 ∧ q < wc W 2 ∧ x = nI w ∧ y = nI q ∧ wS W 0 w = 0 ∧ f_X11_canStart x y σx = some 1 ∧ f_X12_couldHold x y σm = some 1) ∨ (f_X11_canStart x y σx = some 0 ∧ (f_X12_couldHold x y σm = some 0 ∨ (f_X12_couldHold x y σm = some 1 ∧ ∃ w, w < wc W 3 ∧ x = nI w ∧ wS W 0 w ≠ 0))) := by
  obtain ⟨⟨hK5, hP4, hN6, hf⟩, _⟩ := hW.2.1.1
  rcases w_isWork hx.1.2.1.2.2.1 hm.1.2.1.2.2.1 (by omega) x with ⟨w, h1, rfl, h2, h3⟩ | ⟨h2, h3⟩
  · have hg := x_goes hx hW h1 h2
    by_cases h0 : wS W 0 w = 0
    · rw [if_pos h0] at hg
      rcases w_free hx hm hW y with ⟨q, k1, rfl, k2, k3, k4⟩ | ⟨k1, k2⟩
      · refine Or.inl ⟨w, q, h1, k1, rfl, rfl, h0, ?_, k4 _ h3⟩
        unfold f_X11_canStart b_X11_canStart_0
        rw [h2, bnd, if_neg one_ne, hg, bnd, if_pos rfl, k2, bnd, if_neg one_ne, k3]; rfl
      · refine Or.inr ⟨?_, Or.inl (k2 _ h3)⟩
        unfold f_X11_canStart b_X11_canStart_0
        rw [h2, bnd, if_neg one_ne, hg, bnd, if_pos rfl]
        rcases k1 with k1 | ⟨k1, k3⟩
        · rw [k1]; rfl
        · rw [k1, bnd, if_neg one_ne, k3]; rfl
    · rw [if_neg h0] at hg
      refine Or.inr ⟨?_, ?_⟩
      · unfold f_X11_canStart b_X11_canStart_0
        rw [h2, bnd, if_neg one_ne, hg]; rfl
      · rcases w_free hx hm hW y with ⟨q, k1, rfl, k2, k3, k4⟩ | ⟨k1, k2⟩
        · exact Or.inr ⟨k4 _ h3, w, h1, rfl, h0⟩
        · exact Or.inl (k2 _ h3)
  · refine Or.inr ⟨?_, Or.inl (m_ch0 h3)⟩
    unfold f_X11_canStart b_X11_canStart_0
    rw [h2]; rfl
end FF
theorem s_10 : StpS 10 := fun t a σx σm ht hI0 hsh => by
  have hI1 := hI0
  obtain ⟨ow, W, Wi, RR, T, len, h1, h2, h3⟩ := hI0
  have hW := h3.2.2.1.1
  have hV := hW.2.2.1.1
  obtain ⟨⟨hK5, hP4, hN6, hf⟩, _⟩ := hW.2.1.1
  have hx := h1.2.2.2.1.v
  have hm := h2.2.2.1
  show ∃ r σx' σm', f_X11_sneak (a 1) (a 2) σx = some (r, σx') ∧ f_X12_sneak (a 1) (a 2) σm = some (r, σm') ∧ Inv (t + 1) σx' σm'
  unfold f_X11_sneak b_X11_sneak_0 f_X12_sneak b_X12_sneak_0
  rcases w_start hx hm hW (a 1) (a 2) with ⟨w, q, k1, k2, e1, e2, k3, k4, k5⟩ | ⟨k1, k2⟩
  · rw [k4, k5, bnd, bnd, if_neg one_ne, if_neg one_ne, e1, e2]
    have bw : inb (nI w) 6 := in_n (by omega) (by decide)
    have em : sI σm 9 w = -1 := by rw [(hm.2.1.1 w k1).1, k3]; rfl
    obtain ⟨σx1, σm1, ow', l1, l2, l3, l4, l5⟩ := keep2 h1 h2 h3 hsh ht
    have sx : SX 35 σx1 (wS W) := l3.2.2.2.1.2.2.1
    have sm : SM σm1 (wc W 2) (wc W 3) (wS W) := by
      have := l4.2.2.1.2.1
      rw [wRem_c _ (by decide), wRem_c _ (by decide)] at this
      exact this
    have s1 := sx.hold w (q + 1) (x := nI q) (hI_s q).symm
    have s2 := sm.hold w (q + 1) (x := nI q) (hI_s q).symm
    have f1 : sI (wI σx1 36 w (nI q)) 35 3 = nI (wS W 3 3) := s1.2.2.1
    have f2 : sI (wI σm1 9 w (nI q)) 1 6 = nI (wS W 3 3) := s2.2.2.1
    have hb := b_set (wS W 3 3) hV.2.2.1.1 w (by omega)
    rw [l1, l2, bnd, chk_t bw, ix_n (by omega), em, if_pos rfl, bnd, chk_t bw, chk_t bw, f1, f2, hb, sI_wIs, sI_wIs]
    refine ⟨_, _, _, rfl, rfl, act_fin l3 l4 l5 ((FX.w 35 σx1 1 (by decide) _ _).trans (FX.w0 35 _ _ _)) ((FM.row σm1 _ _ (by decide)).trans (FM.fld _ _ (by decide))) (s1.fld 3 _ rfl) ?_ ?_ ?_⟩
    · rw [wRem_c _ (by decide), wRem_c _ (by decide)]; exact s2.snk _ rfl
    · rw [wRem_c _ (by decide), wRem_c _ (by decide)]
      refine (hV.hold (k := w) (v := q + 1) k1 (by omega) (by omega)).snk (b_set_lt _ hV.2.2.1.1 w (by omega)) (fun v hv h0 => ?_)
      rw [b_set_bt _ hV.2.2.1.1 w (by omega) v hv]
      by_cases e : v = w
      · subst e; rw [up2_s] at h0; omega
      · rw [if_neg e]; rw [up2_k _ _ _ e] at h0; exact hV.2.2.1.2 v hv h0
    · rw [up2_k _ _ _ (by decide), up2_n _ _ _ _ (by decide)]; exact hW.2.2.1.2
  · refine ⟨-1, σx, σm, by rw [k1]; rfl, ?_, hI1.up (by omega)⟩
    rcases k2 with k2 | ⟨k2, w, k3, e1, k4⟩
    · rw [k2]; rfl
    · have em := (hm.2.1.1 w k3).1
      have := (hV.1 w (by omega)).1
      rw [k2, bnd, if_neg one_ne, e1, chk_t (in_n (show w < 6 by omega) (by decide)), ix_n (by omega), em, q_none (by omega), if_neg k4]; rfl
theorem s_9 : StpS 9 := fun t a σx σm ht hI0 hsh => by
  have hI1 := hI0
  obtain ⟨ow, W, Wi, RR, T, len, h1, h2, h3⟩ := hI0
  have hW := h3.2.2.1.1
  have hV := hW.2.2.1.1
  obtain ⟨⟨hK5, hP4, hN6, hf⟩, hW2, hW3, hW4⟩ := hW.2.1.1
  have hx := h1.2.2.2.1.v
  have hm := h2.2.2.1
  show ∃ r σx' σm', f_X11_begin (a 1) (a 2) σx = some (r, σx') ∧ f_X12_begin (a 1) (a 2) σm = some (r, σm') ∧ Inv (t + 1) σx' σm'
  unfold f_X11_begin b_X11_begin_0 f_X12_begin b_X12_begin_0
  rcases w_start hx hm hW (a 1) (a 2) with ⟨w, q, k1, k2, e1, e2, k3, k4, k5⟩ | ⟨k1, k2⟩
  · have bw : inb (nI w) 6 := in_n (by omega) (by decide)
    have bq : inb (nI q) 4 := in_n (by omega) (by decide)
    have hk := (hW4 w k1).1
    have bk : inb (nI (wL W 5 w)) 5 := in_n (by omega) (by decide)
    have hpr := (hW2 (wL W 5 w) hk).1
    have hpu := (hV.2.1 q (by omega)).1
    have hch := hV.2.2.2.1
    have em : sI σm 9 w = -1 := by rw [(hm.2.1.1 w k1).1, k3]; rfl
    have ek : sI σx 29 w = nI (wL W 5 w) := (hx.1.2.2.2.2 w k1).1
    have ekm : sI σm 8 w = nI (wL W 5 w) := (hm.1.2.2.2.2 w k1).1
    have ep : sI σx 24 (wL W 5 w) = nI (wL W 0 (wL W 5 w)) := (hx.1.2.2.1 _ hk).1
    have epm : sI σm 2 (wL W 5 w) = nI (wL W 0 (wL W 5 w)) := (hm.1.2.2.1 _ hk).1
    have eu : sI σx 38 q = nI (wS W 2 q) := hx.2.2.1.2.1 q (by omega)
    have eum : sI σm 4 q = nI (wS W 2 q) := hm.2.1.2.1 q k2
    rw [k4, k5, bnd, bnd, if_neg one_ne, if_neg one_ne, e1, e2, chk_t bw, chk_t bw, ix_n (show w < 2 ^ 31 by omega), ix_n (show q < 2 ^ 31 by omega), ek, ekm, chk_t bk, chk_t bq, ix_n (show wL W 5 w < 2 ^ 31 by omega), ep, eu, em, if_pos rfl, chk_t bq, chk_t bw, chk_t bk, epm, eum, q_le (by omega) (by omega), q_le (by omega) (by omega)]
    by_cases hle : wL W 0 (wL W 5 w) ≤ wS W 2 q
    · obtain ⟨σx1, σm1, ow', l1, l2, l3, l4, l5⟩ := keep2 h1 h2 h3 hsh ht
      have sx : SX 35 σx1 (wS W) := l3.2.2.2.1.2.2.1
      have sm : SM σm1 (wc W 2) (wc W 3) (wS W) := by
        have := l4.2.2.1.2.1
        rw [wRem_c _ (by decide), wRem_c _ (by decide)] at this
        exact this
      have lm : LM σm1 (wc W 1) (wc W 2) (wc W 3) (wL W) := by
        have := l4.2.2.1.1.2
        rw [wRem_c _ (by decide), wRem_c _ (by decide), wRem_c _ (by decide)] at this
        exact this
      obtain ⟨σx2, p1, p2, p3⟩ := x_pay sx (h := q + 1) (v := wL W 0 (wL W 5 w)) (by omega) (by omega) hle (by omega)
      rw [hI_s] at p1
      have s1 := p2.hold w (q + 1) (x := nI q) (hI_s q).symm
      have m1 := sm.purs q (wS W 2 q - wL W 0 (wL W 5 w)) (x := nI (wS W 2 q) - nI (wL W 0 (wL W 5 w))) (pk_sub hle)
      have g8 : sI σm1 8 w = nI (wL W 5 w) := (lm.2.2.2 w k1).1
      have g2 : sI σm1 2 (wL W 5 w) = nI (wL W 0 (wL W 5 w)) := (lm.2.1 _ hk).1
      have g4 : sI σm1 4 q = nI (wS W 2 q) := sm.2.1 q k2
      have i1 := m_into (σ := wI σm1 4 q (nI (wS W 2 q) - nI (wL W 0 (wL W 5 w)))) (c := wS W 3 4) (v := wL W 0 (wL W 5 w)) m1.2.2.2.1 (by omega)
      have m2 := m1.chst (min 99999 (wS W 3 4 + wL W 0 (wL W 5 w))) (x := nI (min 99999 (wS W 3 4 + wL W 0 (wL W 5 w)))) rfl
      have m3 := m2.hold w (q + 1) (x := nI q) (hI_s q).symm
      have z1 : sI (wI σx2 36 w (nI q)) 38 q = nI (wS W 2 q - wL W 0 (wL W 5 w)) := by
        have := s1.2.1 q (by omega)
        rw [up2_n _ _ _ _ (by decide), up2_n _ _ _ _ (by decide), Nat.add_sub_cancel, up2_s] at this
        exact this
      have z2 := m3.2.1 q k2
      rw [up2_n _ _ _ _ (by decide), up2_n _ _ _ _ (by decide), up2_s] at z2
      rw [if_pos hle, if_pos hle, l1, l2, bnd, p1, bnd, chk_t bw, chk_t bq, bnd, chk_t bq, chk_t bw, g8, chk_t bk, chk_t bq, chk_t bw, ix_n (show wL W 5 w < 2 ^ 31 by omega), g2, g4, sI_wIn _ _ _ _ (show (8 : Nat) ≠ 4 by decide), g8, chk_t bk, ix_n (show wL W 5 w < 2 ^ 31 by omega), sI_wIn _ _ _ _ (show (2 : Nat) ≠ 4 by decide), g2, i1, bnd, chk_t bw, chk_t bq]
      refine ⟨nI (wS W 2 q - wL W 0 (wL W 5 w)), wI σx2 36 w (nI q), wI (wI (wI σm1 4 q (nI (wS W 2 q) - nI (wL W 0 (wL W 5 w)))) 1 1 (nI (min 99999 (wS W 3 4 + wL W 0 (wL W 5 w))))) 9 w (nI q), ?_, ?_, act_fin l3 l4 l5 (p3.trans (FX.w 35 σx2 1 (by decide) _ _)) (((FM.row (a := 4) σm1 _ _ (by decide)).trans (FM.fld (k := 1) _ _ (by decide))).trans (FM.row (a := 9) _ _ _ (by decide))) s1 ?_ ?_ ?_⟩
      · rw [z1]
      · rw [z2]
      · rw [wRem_c _ (by decide), wRem_c _ (by decide), Nat.add_sub_cancel]; exact m3
      · rw [wRem_c _ (by decide), wRem_c _ (by decide), Nat.add_sub_cancel]
        exact ((hV.purs k2 (by omega)).chst (by omega)).hold k1 (by omega) (by omega)
      · rw [up2_n _ _ _ _ (by decide), up2_k _ _ _ (by decide), up2_n _ _ _ _ (by decide)]; exact hW.2.2.1.2
    · rw [if_neg hle, if_neg hle]
      exact ⟨-1, σx, σm, rfl, rfl, hI1.up (by omega)⟩
  · refine ⟨-1, σx, σm, by rw [k1]; rfl, ?_, hI1.up (by omega)⟩
    rcases k2 with k2 | ⟨k2, w, k3, e1, k4⟩
    · rw [k2]; rfl
    · have em := (hm.2.1.1 w k3).1
      have := (hV.1 w (by omega)).1
      rw [k2, bnd, if_neg one_ne, e1, chk_t (in_n (show w < 6 by omega) (by decide)), ix_n (by omega), em, q_none (by omega), if_neg k4]; rfl
theorem s_12 : StpS 12 := fun t a σx σm ht hI0 hsh => by
  have hI1 := hI0
  obtain ⟨ow, W, Wi, RR, T, len, h1, h2, h3⟩ := hI0
  have hW := h3.2.2.1.1
  have hV := hW.2.2.1.1
  obtain ⟨⟨hK5, hP4, hN6, hf⟩, _⟩ := hW.2.1.1
  have hx := h1.2.2.2.1.v
  have hm := h2.2.2.1
  show ∃ r σx' σm', f_X11_drop (a 1) σx = some (r, σx') ∧ f_X12_drop (a 1) σm = some (r, σm') ∧ Inv (t + 1) σx' σm'
  unfold f_X11_drop b_X11_drop_0 f_X12_drop b_X12_drop_0
  rcases w_goes hx.1.2.1.2.2.1 hm.1.2.1.2.2.1 hN6 hP4 hx.2.2.1 hm.2.1 hV (a 1) with ⟨w, k1, e1, k2, k3, k4⟩ | ⟨k3, k4⟩
  · have bw : inb (nI w) 6 := in_n (by omega) (by decide)
    have ex : sI σx 36 w = hI (wS W 0 w) := (hx.2.2.1.1 w (by omega)).1
    obtain ⟨σx1, σm1, ow', l1, l2, l3, l4, l5⟩ := keep2 h1 h2 h3 hsh ht
    have sx : SX 35 σx1 (wS W) := l3.2.2.2.1.2.2.1
    have sm : SM σm1 (wc W 2) (wc W 3) (wS W) := by
      have := l4.2.2.1.2.1
      rw [wRem_c _ (by decide), wRem_c _ (by decide)] at this
      exact this
    have em : sI σm1 9 w = hI (wS W 0 w) := (sm.1 w k1).1
    obtain ⟨σx2, p1, p2, p3⟩ := x_lay sx (k := w) (by omega) hV.2.2.1.1
    obtain ⟨σm2, q1, q2, q3⟩ := m_drops sm (k := w) (by omega) hV.2.2.1.1
    rw [k3, k4, bnd, bnd, if_neg one_ne, if_neg one_ne, e1, chk_t bw, l1, bnd, p1, bnd, l2, bnd, chk_t bw, q1, bnd, ix_n (by omega), ex, em]
    refine ⟨_, _, _, rfl, rfl, act_fin l3 l4 l5 p3 q3 p2 ?_ ?_ ?_⟩
    · rw [wRem_c _ (by decide), wRem_c _ (by decide)]; exact q2
    · rw [wRem_c _ (by decide), wRem_c _ (by decide)]; exact hV.lay (by omega)
    · rw [aLay_35]; exact hW.2.2.1.2
  · exact ⟨-1, σx, σm, by rw [k3]; rfl, by rw [k4]; rfl, hI1.up (by omega)⟩
theorem s_11 : StpS 11 := fun t a σx σm ht hI0 hsh => by
  have hI1 := hI0
  obtain ⟨ow, W, Wi, RR, T, len, h1, h2, h3⟩ := hI0
  have hW := h3.2.2.1.1
  have hV := hW.2.2.1.1
  obtain ⟨⟨hK5, hP4, hN6, hf⟩, hW2, hW3, hW4⟩ := hW.2.1.1
  have hx := h1.2.2.2.1.v
  have hm := h2.2.2.1
  have h999 := hW.2.2.1.2
  show ∃ r σx' σm', f_X11_hand (a 1) (a 2) σx = some (r, σx') ∧ f_X12_hand (a 1) (a 2) σm = some (r, σm') ∧ Inv (t + 1) σx' σm'
  have fail : ∃ r σx' σm', b_X11_hand_24 σx = some (r, σx') ∧ b_X12_hand_48 σm = some (r, σm') ∧ Inv (t + 1) σx' σm' := ⟨-1, σx, σm, rfl, rfl, hI1.up (by omega)⟩
  have fail2 : ∃ r σx' σm', b_X11_hand_52 σx = some (r, σx') ∧ b_X12_hand_48 σm = some (r, σm') ∧ Inv (t + 1) σx' σm' := ⟨-1, σx, σm, rfl, rfl, hI1.up (by omega)⟩
  unfold f_X11_hand b_X11_hand_0 f_X12_hand b_X12_hand_0
  rcases w_isWork hx.1.2.1.2.2.1 hm.1.2.1.2.2.1 (by omega) (a 1) with ⟨w, k1, e1, k2, k3⟩ | ⟨k2, k3⟩
  · rw [e1] at k2 k3
    have bw : inb (nI w) 6 := in_n (by omega) (by decide)
    have ex : sI σx 36 w = hI (wS W 0 w) := (hx.2.2.1.1 w (by omega)).1
    have em : sI σm 9 w = hI (wS W 0 w) := (hm.2.1.1 w k1).1
    have hh := (hV.1 w (by omega)).1
    have hg := x_goes hx hW k1 k2
    rw [e1, hg, bnd]
    rcases w_free hx hm hW (a 2) with ⟨q, l1, e2, l2, l3, l4⟩ | ⟨l1, l2⟩
    · rw [e2] at l2 l3 l4
      rw [e2, l4 _ k3, bnd, if_neg one_ne, l2, bnd, if_neg one_ne, l3, bnd, if_neg one_ne, chk_t bw, chk_t bw, ix_n (by omega), ex, em, q_none (by omega)]
      by_cases h0 : wS W 0 w = 0
      · rw [if_pos h0, if_pos h0, if_pos rfl]; exact fail
      · rw [if_neg h0, if_neg h0, if_neg one_ne, chk_t bw, q_hn (by omega) (by omega), q_hn (by omega) (by omega)]
        by_cases hq : wS W 0 w = q + 1
        · rw [if_pos hq, if_pos hq]; exact fail2
        · obtain ⟨v, hv⟩ : ∃ v, wS W 0 w = v + 1 := ⟨wS W 0 w - 1, by omega⟩
          have hvP : v < wc W 2 := by omega
          have a1 := hx.1.2.2.2.1 v hvP
          have a2 := hm.1.2.2.2.1 v hvP
          have e35 : sI σx 35 5 = nI (wS W 3 5) := hx.2.2.1.2.2.2.2
          have em5 : sI σm 1 5 = nI (wS W 3 5) := hm.2.1.2.2.2.2
          have ea : f_X3_isAsleep (nI v) (nI (wS W 3 5)) σx = some (nI (asl (wL W 2 v) (wL W 3 v) (wS W 3 5))) := x_asleep (by omega) a1.1 a1.2.1 (hW3 v hvP).1 (hW3 v hvP).2.1 (by omega)
          have eam : f_X12_isAsleep (nI v) (nI (wS W 3 5)) σm = some (nI (asl (wL W 2 v) (wL W 3 v) (wS W 3 5))) := m_asleep (by omega) a2.1 a2.2.1 (hW3 v hvP).1 (hW3 v hvP).2.1 (by omega)
          have eaw : f_X11_isAwake (nI v) σx = some (if asl (wL W 2 v) (wL W 3 v) (wS W 3 5) = 0 then 1 else 0) := by
            unfold f_X11_isAwake b_X11_isAwake_0
            rcases w_isPerson hx.1.2.1.2.1 hm.1.2.1.2.1 (by omega) (nI v) with ⟨j, _, _, g2, _⟩ | ⟨g2, _⟩
            · rw [g2, bnd, if_neg one_ne, e35, ea, bnd]
              rcases asl_01 (wL W 2 v) (wL W 3 v) (wS W 3 5) with h | h
              · rw [h]; rfl
              · rw [h]; rfl
            · exfalso
              unfold f_X11_isPerson b_X11_isPerson_0 b_X11_isPerson_23 at g2
              rw [if_neg (nI_pos (by omega)), hx.1.2.1.2.1, q_le (by omega) (by omega), if_neg (by omega), chk_t (Or.inr rfl)] at g2
              exact absurd g2 (by decide)
          rw [if_neg hq, if_neg hq, chk_t bw, hv, hI_s, em5, eam, bnd, eaw, bnd, q_zero (by have := asl_01 (wL W 2 v) (wL W 3 v) (wS W 3 5); omega)]
          rcases asl_01 (wL W 2 v) (wL W 3 v) (wS W 3 5) with h | h
          · obtain ⟨σx1, σm1, ow', u1, u2, u3, u4, u5⟩ := keep2 h1 h2 h3 hsh ht
            have sx : SX 35 σx1 (wS W) := u3.2.2.2.1.2.2.1
            have sm : SM σm1 (wc W 2) (wc W 3) (wS W) := by
              have := u4.2.2.1.2.1
              rw [wRem_c _ (by decide), wRem_c _ (by decide)] at this
              exact this
            have em1 : sI σm1 9 w = nI v := by rw [(sm.1 w k1).1, hv, hI_s]
            have s1 := sx.hold w (q + 1) (x := nI q) (hI_s q).symm
            have s2 := sm.hold w (q + 1) (x := nI q) (hI_s q).symm
            rw [if_pos h, if_pos h, if_neg one_ne, u1, u2, bnd, bnd, chk_t bw, chk_t bw, chk_t bw, em1]
            refine ⟨_, _, _, rfl, rfl, act_fin u3 u4 u5 (FX.w 35 σx1 1 (by decide) _ _) (FM.row σm1 _ _ (by decide)) s1 ?_ ?_ ?_⟩
            · rw [wRem_c _ (by decide), wRem_c _ (by decide)]; exact s2
            · rw [wRem_c _ (by decide), wRem_c _ (by decide)]; exact hV.hold k1 (by omega) (by omega)
            · rw [up2_n _ _ _ _ (by decide)]; exact h999
          · have hz : ¬ asl (wL W 2 v) (wL W 3 v) (wS W 3 5) = 0 := by rw [h]; decide
            rw [if_neg hz, if_neg hz, if_pos rfl]; exact fail2
    · rw [l2 _ k3, bnd, if_pos rfl]
      by_cases h0 : wS W 0 w = 0
      · rw [if_pos h0, if_pos rfl]; exact fail
      · rw [if_neg h0, if_neg one_ne]
        rcases l1 with l1 | ⟨l1, l3⟩
        · rw [l1, bnd, if_pos rfl]; exact fail
        · rw [l1, bnd, if_neg one_ne, l3, bnd, if_pos rfl]; exact fail
  · have hg : f_X11_goes (a 1) σx = some 0 := by
      unfold f_X11_goes b_X11_goes_0
      rw [k2]; rfl
    rw [hg, m_ch0 k3, bnd, bnd, if_pos rfl, if_pos rfl]; exact fail
/-! undo -/
def wUndo (W : Wd) : Wd := (up1 W.1 7 (wc W 7 - 1), wL W, wQ W 0, wB W, (fun i => wQ W (i + 1)), wG W)
theorem wUndo_c (W : Wd) {j : Nat} (h : j ≠ 7) : wc (wUndo W) j = wc W j := up1_n _ _ h
theorem wUndo_7 (W : Wd) : wc (wUndo W) 7 = wc W 7 - 1 := by
  show up1 W.1 7 (wc W 7 - 1) 7 = _
  exact up1_s _ _ _
theorem WW.undo {W : Wd} (h : WW W) (h0 : wc W 7 ≠ 0) : WW (wUndo W) := by
  obtain ⟨⟨w1, w2, w3, w4, w5⟩, g2, g3, g4, g5, g6⟩ := h
  unfold WW
  rw [wUndo_c W (j := 0) (by decide), wUndo_c W (j := 1) (by decide), wUndo_c W (j := 2) (by decide), wUndo_c W (j := 3) (by decide), wUndo_c W (j := 4) (by decide), wUndo_c W (j := 5) (by decide), wUndo_c W (j := 6) (by decide), wUndo_7]
  exact ⟨⟨w1, w2, w3, w4, by omega⟩, g2, g5 0 (by omega), g4, fun i hi => g5 (i + 1) (by omega), g6⟩
theorem s_13 : StpS 13 := fun t a σx σm ht hI0 hsh => by
  have hI1 := hI0
  obtain ⟨ow, W, Wi, RR, T, len, hX, hM, h3⟩ := hI0
  have hW := h3.2.2.1.1
  obtain ⟨⟨hK5, hP4, hN6, hf⟩, _⟩ := hW.2.1.1
  have h20 := hW.1.2.2.2.2
  obtain ⟨⟨h1, h2⟩, hB, h4, ⟨h5, h6, h7, h8⟩, h9, np, g1, g2, g3, g4⟩ := hX.2.2.2.1
  obtain ⟨⟨a1, a2⟩, a3, ⟨a4, a5, a6⟩, ⟨a7, a8, a9, a10⟩, a11, a12⟩ := hM.2.2.1
  show ∃ r σx' σm', f_X11_undo σx = some (r, σx') ∧ f_X12_undo σm = some (r, σm') ∧ Inv (t + 1) σx' σm'
  unfold f_X11_undo b_X11_undo_0 b_X11_undo_22 f_X10_undoLast b_X10_undoLast_0 b_X10_undoLast_13 b_X10_undoLast_29 f_X12_undo b_X12_undo_0
  have elast : ((sI σx 22 3 + (20 : Int32)) - (1 : Int32)) - ((sI σx 22 3 + (20 : Int32)) - (1 : Int32)) / (20 : Int32) * (20 : Int32) = nI ((np + 20 - 1) % 20) := by
    rw [g2, nl_add, nl_sub (by omega), nl_rem (by omega) (by decide) (by decide)]
  rw [elast, h8, a10, q_zero (by omega), q_zero (by omega)]
  by_cases hz : wc W 7 = 0
  · rw [if_pos hz, if_pos hz]
    exact ⟨-2, σx, σm, rfl, rfl, hI1.up (by omega)⟩
  · rw [if_neg hz, if_neg hz]
    obtain ⟨b, q1, q2⟩ := g4 0 (by omega)
    rw [show (np + 19 - 0) % 20 = (np + 20 - 1) % 20 by omega] at q1
    have hlt := Nat.mod_lt (np + 20 - 1) (show 0 < 20 by decide)
    obtain ⟨u1, u2, u3⟩ := g3 _ hlt b q1
    obtain ⟨σx1, c1, c2, c3⟩ := x_copy (a0 := 35) q2 (by omega)
    have q1' : sR σx 39 ((np + 20 - 1) % 20) = some b := q1
    have bl : inb (nI ((np + 20 - 1) % 20)) 20 := in_n hlt (by decide)
    have e4 : sI (wI σx1 22 3 (nI ((np + 20 - 1) % 20))) 22 4 = nI (wc W 7) := by rw [sI_wIk _ _ _ _ (by decide), c3.2 22 (by decide)]; exact h8
    have esub : nI (wc W 7) - 1 = nI (wc W 7 - 1) := nl_sub (by omega)
    obtain ⟨σm1, m1, m2, m3, m4, m5, m6, m7, m8, m9, m10⟩ := m_mvBack (t := wc W 7 - 1) (wI σm 0 51 (nI (wc W 7 - 1))) (by omega)
    obtain ⟨σ', hσ'⟩ : ∃ σ', σ' = wI (wI σx1 22 3 (nI ((np + 20 - 1) % 20))) 22 4 (nI (wc W 7 - 1)) := ⟨_, rfl⟩
    have r : ∀ p, p ≠ 22 → (p < 35 ∨ 38 < p) → sI σ' p = sI σx p := fun p hp hq => by rw [hσ', sI_wIn _ _ _ _ hp, sI_wIn _ _ _ _ hp, c3.2 p hq]
    have r22 : ∀ j, j ≠ 3 → j ≠ 4 → sI σ' 22 j = sI σx 22 j := fun j q1 q2 => by rw [hσ', sI_wIk _ _ _ _ q2, sI_wIk _ _ _ _ q1, c3.2 22 (by decide)]
    have sN' : sN σ' = sN σx := by rw [hσ']; exact c3.1.1
    have sS' : sS σ' = sS σx := by rw [hσ']; exact c3.1.2.1
    have sR' : sR σ' = sR σx := by rw [hσ']; exact c3.1.2.2
    have mr : ∀ b, b ≠ 0 → b ≠ 1 → b ≠ 4 → b ≠ 9 → b ≠ 10 → sI σm1 b = sI σm b := fun b q0 q1 q4 q9 q10 => by rw [m4 b q0 q1 q4 q9 q10, sI_wIn _ _ _ _ q0]
    have m0 : ∀ j, j ≠ 51 → j ≠ 52 → j ≠ 53 → sI σm1 0 j = sI σm 0 j := fun j q1 q2 q3 => by rw [m3 j q2 q3, sI_wIk _ _ _ _ q1]
    have mr1 : ∀ j, j ≠ 1 → j ≠ 5 → j ≠ 6 → sI σm1 1 j = sI σm 1 j := fun j q1 q2 q3 => by rw [m5 j q1 q2 q3, sI_wIn _ _ _ _ (by decide)]
    refine ⟨nI (wc W 7 - 1), σ', σm1, ?_, ?_, ow, wUndo W, Wi, RR, T, len, hX.w h3.2.1.1 ⟨⟨by rw [r 23 (by decide) (by decide), wUndo_c _ (by decide)]; exact h1, ?_⟩, hB.fr (fun p q1 q2 => r p (by omega) (by omega)), ?_, ?_, ?_, (np + 20 - 1) % 20, hlt, ?_, ?_, ?_⟩ (by omega) (by have := hX.1.2; omega) (fun p _ => by rw [sS']) (fun c _ _ _ => by rw [sR']) (r 1 (by decide) (by decide)) (r 2 (by decide) (by decide)) (by rw [r 0 (by decide) (by decide)]) (fun p q1 _ _ => r p (by omega) (by omega)) (fun _ _ => rfl), hM.w (fun k V hk hV => (h3.2.2.2 k V hk hV).1) ?_ (fun j hj => m0 j (by omega) (by omega) (by omega)) (fun b hb => mr b (by omega) (by omega) (by omega) (by omega) (by omega)) (fun j _ => by rw [mr 45 (by decide) (by decide) (by decide) (by decide) (by decide)]), h3.1, h3.2.1, ⟨hW.undo hz, by rw [wUndo_c _ (by decide)]; exact h3.2.2.1.2⟩, h3.2.2.2⟩
    · rw [chk_t bl, ix_n (by omega), q1', onr_s, chk_t u2, chk_t bl, onr_s, chk_t u2, c1, bnd, bnd, e4, esub, ← hσ']
      show (if (1 : Int32) = 0 then _ else some (sI σ' 22 4, σ')) = _
      rw [if_neg one_ne]
      rw [show sI σ' 22 4 = nI (wc W 7 - 1) by rw [hσ', sI_wIs]]
    · rw [esub, sI_wIs, m1, bnd, m3 51 (by decide) (by decide), sI_wIs]
    · rw [wUndo_c _ (by decide), wUndo_c _ (by decide), wUndo_c _ (by decide)]
      exact h2.fr (fun p q1 q2 => r p (by omega) (by omega))
    · show SX 35 σ' (wQ W 0)
      exact c2.fr (fun p v1 v2 => by rw [hσ', sI_wIn _ _ _ _ (by omega), sI_wIn _ _ _ _ (by omega)])
    · rw [r22 9 (by decide) (by decide), r22 10 (by decide) (by decide), r22 8 (by decide) (by decide), wUndo_c _ (by decide), wUndo_c _ (by decide), wUndo_c _ (by decide), wUndo_7]
      exact ⟨h5, h6, h7, by rw [hσ', sI_wIs]⟩
    · rw [r 40 (by decide) (by decide), r 41 (by decide) (by decide), r 42 (by decide) (by decide), wUndo_c _ (by decide)]
      exact h9
    · rw [hσ', sI_wIk _ _ _ _ (by decide), sI_wIs]
    · intro s hs c hc
      rw [sR'] at hc
      obtain ⟨v1, v2, v3⟩ := g3 s hs c hc
      exact ⟨v1, ⟨by rw [sN']; exact v2.1, fun i hi => by rw [sS']; exact v2.2 i hi⟩, v3⟩
    · intro i hi
      rw [wUndo_7] at hi
      obtain ⟨c, v1, v2⟩ := g4 (i + 1) (by omega)
      have := (g3 _ (Nat.mod_lt _ (by decide)) c v1).1
      refine ⟨c, ?_, ?_⟩
      · rw [sR', show ((np + 20 - 1) % 20 + 19 - i) % 20 = (np + 19 - (i + 1)) % 20 by omega]; exact v1
      · exact v2.fr (fun p _ _ => r p (by omega) (by omega))
    · unfold MW
      rw [wUndo_c W (j := 0) (by decide), wUndo_c W (j := 1) (by decide), wUndo_c W (j := 2) (by decide), wUndo_c W (j := 3) (by decide), wUndo_c W (j := 4) (by decide), wUndo_c W (j := 5) (by decide), wUndo_c W (j := 6) (by decide), wUndo_7]
      have r38 : sI σm1 38 = sI σm 38 := mr 38 (by decide) (by decide) (by decide) (by decide) (by decide)
      obtain ⟨y1, y2, y3, y4, y5⟩ := a12 0 (by omega)
      have e38 : sI (wI σm 0 51 (nI (wc W 7 - 1))) 38 = sI σm 38 := sI_wIn _ _ _ _ (by decide)
      rw [e38] at m6 m7 m8
      simp only [e38] at m9 m10
      refine ⟨⟨by rw [m0 28 (by decide) (by decide) (by decide)]; exact a1, ?_⟩, ⟨fun w hw => ⟨(m10 w (by omega)).1.trans (y5 w hw).1, (m10 w (by omega)).2.trans (y5 w hw).2⟩, fun p hp => (m9 p (by omega)).trans (y4 p hp), m8.trans y3, m6.trans y1, m7.trans y2⟩, ⟨by rw [mr 15 (by decide) (by decide) (by decide) (by decide) (by decide)]; exact a4, by rw [mr 16 (by decide) (by decide) (by decide) (by decide) (by decide)]; exact a5, by rw [mr 17 (by decide) (by decide) (by decide) (by decide) (by decide)]; exact a6⟩, ⟨by rw [mr1 9 (by decide) (by decide) (by decide)]; exact a7, by rw [mr1 8 (by decide) (by decide) (by decide)]; exact a8, by rw [mr1 7 (by decide) (by decide) (by decide)]; exact a9, by rw [m3 51 (by decide) (by decide), sI_wIs]⟩, by rw [mr 12 (by decide) (by decide) (by decide) (by decide) (by decide), mr 13 (by decide) (by decide) (by decide) (by decide) (by decide), mr 14 (by decide) (by decide) (by decide) (by decide) (by decide)]; exact a11, fun i hi => ?_⟩
      · obtain ⟨⟨b1, b2, b3, b4⟩, b5, b6, b7⟩ := a2
        refine ⟨⟨by rw [mr1 2 (by decide) (by decide) (by decide)]; exact b1, by rw [mr1 3 (by decide) (by decide) (by decide)]; exact b2, by rw [mr1 4 (by decide) (by decide) (by decide)]; exact b3, by rw [mr1 0 (by decide) (by decide) (by decide)]; exact b4⟩, ?_, ?_, ?_⟩
        · rw [mr 2 (by decide) (by decide) (by decide) (by decide) (by decide), mr 3 (by decide) (by decide) (by decide) (by decide) (by decide)]; exact b5
        · rw [mr 5 (by decide) (by decide) (by decide) (by decide) (by decide), mr 6 (by decide) (by decide) (by decide) (by decide) (by decide), mr 7 (by decide) (by decide) (by decide) (by decide) (by decide)]; exact b6
        · rw [mr 8 (by decide) (by decide) (by decide) (by decide) (by decide), mr 11 (by decide) (by decide) (by decide) (by decide) (by decide)]; exact b7
      · have := a12 (i + 1) (by omega)
        rw [show wc W 7 - 1 - (i + 1) = wc W 7 - 1 - 1 - i by omega] at this
        unfold PM at this ⊢
        rw [r38]; exact this
end
