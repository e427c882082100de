/-! ===== pure: ahead, stops, save, value ===== -/
section
theorem w_goes {σx σm : MS} {P N : Nat} {S : Row2} (h4 : sI σx 23 4 = nI N) (h4m : sI σm 1 4 = nI N) (hN : N ≤ 6) (hP : P ≤ 4) (hx : SX 35 σx S) (hm : SM σm P N S) (hV : WS P N S) (x : Int32) : (∃ j, j < N ∧ x = nI j ∧ S 0 j ≠ 0 ∧ f_X11_goes x σx = some 1 ∧ f_X12_doesGo x σm = some 1) ∨ (f_X11_goes x σx = some 0 ∧ f_X12_doesGo x σm = some 0) := by
  unfold f_X11_goes b_X11_goes_0 b_X11_goes_28 b_X11_goes_29 f_X12_doesGo b_X12_doesGo_0 b_X12_doesGo_22 b_X12_doesGo_23
  rcases w_isWork h4 h4m (by omega) x with ⟨j, h1, rfl, h2, h3⟩ | ⟨h2, h3⟩
  · have ex : sI σx 36 j = hI (S 0 j) := (hx.1 j (by omega)).1
    have em := (hm.1 j h1).1
    have hb := (hV.1 j (by omega)).1
    have bj : inb (nI j) 6 := in_n (by omega) (by decide)
    rw [h2, h3, bnd, bnd, if_neg one_ne, if_neg one_ne, chk_t bj, chk_t bj, ix_n (by omega), ex, em, q_none (by omega)]
    by_cases h0 : S 0 j = 0
    · exact Or.inr ⟨by rw [if_pos h0]; rfl, by rw [if_pos h0]; rfl⟩
    · exact Or.inl ⟨j, h1, rfl, h0, by rw [if_neg h0]; rfl, by rw [if_neg h0]; rfl⟩
  · rw [h2, h3]; exact Or.inr ⟨rfl, rfl⟩
theorem x_isPlan (x : Int32) : ((x < nI 1 ∨ nI 48 < x) ∧ f_X11_isPlan x = some 0) ∨ ∃ j, 1 ≤ j ∧ j ≤ 48 ∧ x = nI j ∧ f_X11_isPlan x = some 1 := by
  unfold f_X11_isPlan b_X11_isPlan_0 b_X11_isPlan_15 b_X11_isPlan_16
  rcases rng x (lo := 1) (hi := 48) (by decide) (by decide) with h | h | ⟨j, h1, h2, rfl⟩
  · exact Or.inl ⟨Or.inl h, by rw [if_pos (show x < 1 from h)]; rfl⟩
  · refine Or.inl ⟨Or.inr h, ?_⟩
    rw [if_pos (show 48 < x from h), ite_self]; rfl
  · refine Or.inr ⟨j, h1, h2, rfl, ?_⟩
    rw [q_nl_lt (by decide) (by omega), if_neg (by omega), q_ln_lt (by decide) (by omega), if_neg (by omega)]; rfl
/-- the same bounds on both sides -/
theorem w_plan (x : Int32) : (∃ j, 1 ≤ j ∧ j ≤ 48 ∧ x = nI j ∧ f_X11_isPlan x = some 1 ∧ f_X12_in x.toInt64 1 48 = some 1) ∨ (f_X11_isPlan x = some 0 ∧ f_X12_in x.toInt64 1 48 = some 0) := by
  rcases m_in x (l := 1) (h := 48) 1 48 (by decide) (by decide) (by decide) (by decide) with ⟨g, h⟩ | ⟨j, g1, g2, e, h⟩
  · rcases x_isPlan x with ⟨_, h2⟩ | ⟨j, g1, g2, e, h2⟩
    · exact Or.inr ⟨h2, h⟩
    · exfalso
      subst e
      rw [nI_ltI (by omega) (by decide), nI_ltI (by decide) (by omega)] at g
      omega
  · rcases x_isPlan x with ⟨g, h2⟩ | ⟨j', _, _, _, h2⟩
    · exfalso
      subst e
      rw [nI_ltI (by omega) (by decide), nI_ltI (by decide) (by omega)] at g
      omega
    · exact Or.inl ⟨j, g1, g2, e, h2, h⟩
/-- a number that is 0 or 1, as 'what' -/
theorem w_what (x : Int32) : (∃ j, j ≤ 1 ∧ x = nI j ∧ f_X12_in x.toInt64 0 1 = some 1) ∨ ((x < 0 ∨ (1 : Int32) < x) ∧ f_X12_in x.toInt64 0 1 = some 0) := by
  rcases m_in x (l := 0) (h := 1) 0 1 (by decide) (by decide) (by decide) (by decide) with ⟨g, h⟩ | ⟨j, _, g2, e, h⟩
  · exact Or.inr ⟨g, h⟩
  · exact Or.inl ⟨j, g2, e, h⟩
section TT
variable {t : Nat} {ow : Nat → Nat} {W : Wd} {Wi : Nat → Option Wd} {RR : List (List Cls)} {T : Nat → Nat} {len : Nat} {σx σm : MS}
/-- behind a trial -/
theorem fin_sc {σx' σ1 σ2 σ3 : MS} {r : Int32} {A B : Option (Int32 × MS)} (hI : Inv t σx σm) (hA : A = some (r, σx')) (hx : ScX σx σx') (hk : KG σm σ1) (hb : KB σm σ1) (hf : F2 σ1 σ2) (hB : ∀ σ3, f_X12_laysBack σ2 = some σ3 → B = some (r, σ3)) : ∃ r σx' σm', A = some (r, σx') ∧ B = some (r, σm') ∧ Inv (t + 1) σx' σm' := by
  obtain ⟨σ3, g1, g2, _⟩ := back_kg hk hb hf
  exact ⟨r, σx', σ3, hA, hB σ3 g1, (hI.sc hx g2.sc).up (by omega)⟩
theorem s_14 : StpK 14 := fun t a σx σm _ hI0 => by
  have hI1 := hI0
  obtain ⟨ow, W, Wi, RR, T, len, h1, h2, h3⟩ := hI0
  have hW := h3.2.2.1.1
  obtain ⟨⟨hK5, hP4, hN6, hf⟩, hW2, hW3, hW4⟩ := hW.2.1.1
  have hv := h1.2.2.2.1.v
  have h01 := hW.1.1
  have h999 := hW.2.2.1.2
  show ∃ r σx' σm', f_X11_ahead (a 1) (a 2) (a 3) σx = some (r, σx') ∧ f_X12_ahead (a 1) (a 2) (a 3) σm = some (r, σm') ∧ Inv (t + 1) σx' σm'
  have fail : ∀ A B, A = some ((-2 : Int32), σx) → B = some ((-2 : Int32), σm) → ∃ r σx' σm', A = some (r, σx') ∧ B = some (r, σm') ∧ Inv (t + 1) σx' σm' := fun A B ea eb => ⟨-2, σx, σm, ea, eb, hI1.up (by omega)⟩
  have mfail : ∀ (s0 : Int32), s0 = 0 → b_X12_ahead_35 (a 1) (a 2) (a 3) s0 σm = some (-2, σm) := fun s0 hs => by
    unfold b_X12_ahead_35 b_X12_ahead_61
    rw [if_pos hs, ite_self]
  have m35 : ∀ s0, (wc W 0 = 0 ∨ f_X12_in (a 2).toInt64 0 100 = some 0) → b_X12_ahead_35 (a 1) (a 2) (a 3) s0 σm = some (-2, σm) := fun s0 hc => by
    unfold b_X12_ahead_35 b_X12_ahead_61
    rw [h2.2.2.1.1.1, q_zero (by omega)]
    rcases hc with hc | hc
    · rw [if_pos hc]
    · rw [hc, bnd, if_pos rfl, ite_self, ite_self]
  have m0 : (∀ s0, b_X12_ahead_35 (a 1) (a 2) (a 3) s0 σm = some (-2, σm)) → f_X12_ahead (a 1) (a 2) (a 3) σm = some (-2, σm) := fun hall => by
    unfold f_X12_ahead b_X12_ahead_0 b_X12_ahead_12 b_X12_ahead_25 b_X12_ahead_30
    simp only [hall, ite_self]
    rcases w_isWork hv.1.2.1.2.2.1 h2.2.2.1.1.2.1.2.2.1 (by omega) (a 1) with ⟨w, _, _, _, k3⟩ | ⟨_, k3⟩ <;> rcases w_isPerson hv.1.2.1.2.1 h2.2.2.1.1.2.1.2.1 (by omega) (a 1) with ⟨p, _, _, _, l3⟩ | ⟨_, l3⟩ <;> rw [k3, l3, bnd, bnd] <;> simp only [ite_self]
  /- what is right -/
  have main : ∀ n what, n ≤ 100 → a 2 = nI n → what ≤ 2 → a 3 = nI what → wc W 0 ≠ 0 → f_X12_in (a 2).toInt64 0 100 = some 1 → ((what = 0 ∧ ∃ w, w < wc W 3 ∧ a 1 = nI w) ∨ (what = 1 ∧ ∃ p, p < wc W 2 ∧ a 1 = nI p) ∨ what = 2) → ∃ r σx' σm', b_X11_ahead_63 (a 1) (a 2) (a 3) σx = some (r, σx') ∧ b_X12_ahead_35 (a 1) (a 2) (a 3) 1 σm = some (r, σm') ∧ Inv (t + 1) σx' σm' := fun n what hn en hwh ewh hto hin hc => by
    obtain ⟨σ1, g1, g2, g3⟩ := m_keepsAll σm
    obtain ⟨σx1, a1, a2, a3, a4⟩ := trial h1 h2 h3 g2.g
    obtain ⟨c, σx2, σ2, S2, b1, b2, b3, b4, b5, b6, b7, _⟩ := go_eq hW.2.1.1 (show n ≤ 200 by omega) a3 a4 (by omega)
    have hsc : ScX σx σx2 := a2.trans b5.sc
    unfold b_X11_ahead_63 b_X12_ahead_35 b_X12_ahead_107
    rw [a1, bnd, en, b1, bnd, h2.2.2.1.1.1, q_zero (by omega), if_neg hto, if_neg one_ne, ← en, hin, bnd, if_neg one_ne, g1, bnd, en, b2, bnd, ewh]
    rcases hc with ⟨rfl, w, hw, ew⟩ | ⟨rfl, p, hp, ep⟩ | rfl
    · rw [if_pos (show nI 0 = 0 from rfl), if_pos (show nI 0 = 0 from rfl), ew, chk_t (in_n (show w < 6 by omega) (by decide)), chk_t (in_n (show w < 6 by omega) (by decide)), ix_n (by omega)]
      refine fin_sc (r := hI (S2 0 w)) (σ3 := σm) hI1 ?_ hsc g2.g g3 b6.f2 (fun σ3 e => ?_)
      · rw [show sI σx2 47 w = hI (S2 0 w) from (b3.2.2.1.1 w (by omega)).1]
      · rw [e, bnd, (b3.2.2.2.1.1 w hw).1]
    · rw [if_neg (show ¬ nI 1 = 0 by decide), if_neg (show ¬ nI 1 = 0 by decide), if_pos (show nI 1 = 1 from rfl), if_pos (show nI 1 = 1 from rfl), ep, chk_t (in_n (show p < 4 by omega) (by decide)), chk_t (in_n (show p < 4 by omega) (by decide)), ix_n (by omega)]
      refine fin_sc (r := nI (S2 2 p)) (σ3 := σm) hI1 ?_ hsc g2.g g3 b6.f2 (fun σ3 e => ?_)
      · rw [show sI σx2 49 p = nI (S2 2 p) from b3.2.2.1.2.1 p (by omega)]
      · rw [e, bnd, b3.2.2.2.1.2.1 p hp]
    · rw [if_neg (show ¬ nI 2 = 0 by decide), if_neg (show ¬ nI 2 = 0 by decide), if_neg (show ¬ nI 2 = 1 by decide), if_neg (show ¬ nI 2 = 1 by decide)]
      refine fin_sc (r := nI (S2 3 4)) (σ3 := σm) hI1 ?_ hsc g2.g g3 b6.f2 (fun σ3 e => ?_)
      · rw [b3.2.2.1.2.2.2.1]
      · rw [e, bnd, b3.2.2.2.1.2.2.2.1]
  unfold f_X11_ahead b_X11_ahead_0 b_X11_ahead_32
  rw [hv.1.1, q_zero (by omega)]
  by_cases hto : wc W 0 = 0
  · rw [if_pos hto]
    exact fail _ _ rfl (m0 (fun s0 => m35 s0 (Or.inl hto)))
  · rw [if_neg hto]
    rcases m_in (a 2) (l := 0) (h := 100) 0 100 (by decide) (by decide) (by decide) (by decide) with ⟨g, hin⟩ | ⟨n, _, hn, en, hin⟩
    · have hm0 := m0 (fun s0 => m35 s0 (Or.inr hin))
      rcases g with g | g
      · rw [if_pos (show a 2 < 0 from g)]; exact fail _ _ rfl hm0
      · rw [if_pos (show 100 < a 2 from g), ite_self]; exact fail _ _ rfl hm0
    · rw [en, if_neg (nI_pos (by omega)), q_ln_lt (by decide) (by omega), if_neg (by omega), ← en]
      rcases rng (a 3) (lo := 0) (hi := 2) (by decide) (by decide) with g | g | ⟨what, _, hwh, ewh⟩
      · rw [if_pos (show a 3 < 0 from g)]
        have n0 : ¬ a 3 = 0 := fun e => by rw [e] at g; exact absurd g (by decide)
        have n1 : ¬ a 3 = 1 := fun e => by rw [e] at g; exact absurd g (by decide)
        have n2 : ¬ a 3 = 2 := fun e => by rw [e] at g; exact absurd g (by decide)
        refine fail _ _ rfl ?_
        unfold f_X12_ahead b_X12_ahead_0 b_X12_ahead_12 b_X12_ahead_25
        rw [if_neg n0, if_neg n1, if_neg n2]; exact mfail 0 rfl
      · have g' : ¬ a 3 ≤ 2 := fun q => by
          have : (2 : Int32) < a 3 := g
          rw [Int32.le_iff_toInt_le] at q
          rw [Int32.lt_iff_toInt_lt] at this
          omega
        rw [if_neg g', ite_self]
        have n0 : ¬ a 3 = 0 := fun e => by rw [e] at g; exact absurd g (by decide)
        have n1 : ¬ a 3 = 1 := fun e => by rw [e] at g; exact absurd g (by decide)
        have n2 : ¬ a 3 = 2 := fun e => by rw [e] at g; exact absurd g (by decide)
        refine fail _ _ rfl ?_
        unfold f_X12_ahead b_X12_ahead_0 b_X12_ahead_12 b_X12_ahead_25
        rw [if_neg n0, if_neg n1, if_neg n2]; exact mfail 0 rfl
      · have main' := main n what hn en hwh ewh hto hin
        unfold f_X12_ahead b_X12_ahead_0 b_X12_ahead_12 b_X12_ahead_25 b_X12_ahead_30 b_X11_ahead_47 b_X11_ahead_60
        have e3a : ¬ a 3 < 0 := by rw [ewh]; exact nI_pos (by omega)
        have e3b : a 3 ≤ 2 := by rw [ewh]; exact nI_le (b := 2) hwh (by decide)
        rw [if_neg e3a, if_pos e3b]
        rcases (by omega : what = 0 ∨ what = 1 ∨ what = 2) with rfl | rfl | rfl
        · have e0 : a 3 = 0 := ewh
          have z1 : ¬ a 3 = 1 := by rw [e0]; decide
          have z2 : ¬ a 3 = 2 := by rw [e0]; decide
          rw [if_pos e0, if_pos e0, if_neg z1, if_neg z1, if_neg z2]
          rcases w_isWork hv.1.2.1.2.2.1 h2.2.2.1.1.2.1.2.2.1 (by omega) (a 1) with ⟨w, k1, ew, k2, k3⟩ | ⟨k2, k3⟩
          · rw [k2, k3, bnd, bnd, if_neg one_ne, if_neg one_ne]
            exact main' (Or.inl ⟨rfl, w, k1, ew⟩)
          · rw [k2, k3, bnd, bnd, if_pos rfl, if_pos rfl]
            exact fail _ _ rfl (mfail 0 rfl)
        · have e0 : a 3 = 1 := ewh
          have z1 : ¬ a 3 = 0 := by rw [e0]; decide
          have z2 : ¬ a 3 = 2 := by rw [e0]; decide
          rw [if_neg z1, if_neg z1, if_pos e0, if_pos e0, if_neg z2]
          rcases w_isPerson hv.1.2.1.2.1 h2.2.2.1.1.2.1.2.1 (by omega) (a 1) with ⟨w, k1, ew, k2, k3⟩ | ⟨k2, k3⟩
          · rw [k2, k3, bnd, bnd, if_neg one_ne, if_neg one_ne]
            exact main' (Or.inr (Or.inl ⟨rfl, w, k1, ew⟩))
          · rw [k2, k3, bnd, bnd, if_pos rfl, if_pos rfl]
            exact fail _ _ rfl (mfail 0 rfl)
        · have e0 : a 3 = 2 := ewh
          have z1 : ¬ a 3 = 0 := by rw [e0]; decide
          have z2 : ¬ a 3 = 1 := by rw [e0]; decide
          rw [if_neg z1, if_neg z1, if_neg z2, if_neg z2, if_pos e0]
          exact main' (Or.inr (Or.inr rfl))
/-! stops -/
theorem stops_loop {K P N : Nat} {L : Row2} (hW : WL K P N L) {w : Nat} (hw : w < N) : ∀ (j k n n2 : Nat) (σx σm : MS) (S : Row2), k + j = 200 → j < n → j + 1 < n2 → Both 46 σx σm K P N L S → RlB σx → S 3 5 + j < 3000 → S 0 w ≠ 0 →
    ∃ r σx' σm', b_X11_stops_17 n (nI w) (nI k) σx = some (r, σx') ∧ b_X12_stops_19 n2 (nI w) (-2) (nI k) σm = b_X12_stops_67 r σm' ∧ FX 46 σx σx' ∧ FM σm σm'
  | 0, k, n + 1, n2 + 1, σx, σm, S, hk, _, _, h, hB, hh, h0 => by
    refine ⟨-2, σx, σm, ?_, ?_, FX.refl _ _, FM.refl _⟩
    · unfold b_X11_stops_17
      rw [q_ln_le (by decide) (by omega), if_pos (by omega)]
    · unfold b_X12_stops_19
      rw [q_ln_le (by decide) (by omega), if_pos (by omega)]
  | j + 1, k, n + 1, n2 + 2, σx, σm, S, hk, hj, hj2, h, hB, hh, h0 => by
    have hN := hW.1.2.2.1
    have hP := hW.1.2.1
    obtain ⟨m, σx1, σm1, S1, a1, a2, a3, a4, a5, a6, a7, a8, a9⟩ := hour_eq hW (Or.inr rfl) h hB (by omega)
    have hb := bt_lt m w
    have hmb := (a4.2.2.2.2.1.1 w (by omega)).1
    have e9 := (a4.2.2.2.1.1 w hw).1
    have e5 : sI σm1 1 5 = nI (S1 3 5) := a4.2.2.2.1.2.2.2.2
    have e46 : sI σx 46 5 = nI (S 3 5) := h.2.2.1.2.2.2.2
    have ebw := a8 w hw h0
    by_cases hz : S1 0 w = 0
    · have hbt := ebw.mpr hz
      refine ⟨nI (S 3 5), σx1, σm1, ?_, ?_, a5, a6⟩
      · unfold b_X11_stops_17
        rw [q_ln_le (by decide) (by omega), if_neg (by omega), a1, bnd, b_get m a3 w (by omega), hbt, if_neg (show ¬ nI 1 = 0 by decide), e46]
      · unfold b_X12_stops_19 b_X12_stops_60
        rw [q_ln_le (by decide) (by omega), if_neg (by omega), if_pos rfl, a2, bnd, chk_t (in_n (show w < 6 by omega) (by decide)), ix_n (by omega), e9, q_none (by omega), if_pos hz, e5, a7, nI_pred, nI_1]
        unfold b_X12_stops_19
        rw [if_neg (show ¬ nI (S 3 5) = -2 from fun e => by
          have := congrArg Int32.toInt e
          rw [nI_toInt (by omega)] at this
          have h2 : (-2 : Int32).toInt = -2 := by decide
          omega), ite_self]
    · have hbt : bt m w = 0 := by
        have : ¬ bt m w = 1 := fun e => hz (ebw.mp e)
        omega
      obtain ⟨r, σx2, σm2, b1, b2, b3, b4⟩ := stops_loop hW hw j (k + 1) n (n2 + 1) σx1 σm1 S1 (by omega) (by omega) (by omega) a4 (hB.fr a5.1) (by omega) hz
      refine ⟨r, σx2, σm2, ?_, ?_, a5.trans b3, a6.trans b4⟩
      · unfold b_X11_stops_17
        rw [q_ln_le (by decide) (by omega), if_neg (by omega), a1, bnd, b_get m a3 w (by omega), hbt, if_pos (show nI 0 = 0 from rfl), nI_1]
        exact b1
      · conv => lhs; unfold b_X12_stops_19 b_X12_stops_60
        rw [q_ln_le (by decide) (by omega), if_neg (by omega), if_pos rfl, a2, bnd, chk_t (in_n (show w < 6 by omega) (by decide)), ix_n (by omega), e9, q_none (by omega), if_neg hz, nI_1]
        exact b2
  | _, _, 0, _, _, _, _, _, hn, _, _, _, _, _ => absurd hn (Nat.not_lt_zero _)
  | _, _, _, 0, _, _, _, _, _, hn, _, _, _, _ => absurd hn (Nat.not_lt_zero _)
  | _ + 1, _, _, 1, _, _, _, _, _, hn, _, _, _, _ => absurd hn (by omega)
theorem s_15 : StpK 15 := fun t a σx σm _ hI0 => by
  have hI1 := hI0
  obtain ⟨ow, W, Wi, RR, T, len, h1, h2, h3⟩ := hI0
  have hF := FU_big
  have hW := h3.2.2.1.1
  obtain ⟨⟨hK5, hP4, hN6, hf⟩, hW2, hW3, hW4⟩ := hW.2.1.1
  have hv := h1.2.2.2.1.v
  have h999 := hW.2.2.1.2
  show ∃ r σx' σm', f_X11_stops (a 1) σx = some (r, σx') ∧ f_X12_stops (a 1) σm = some (r, σm') ∧ Inv (t + 1) σx' σm'
  unfold f_X11_stops b_X11_stops_0 f_X12_stops b_X12_stops_0
  rcases w_goes hv.1.2.1.2.2.1 h2.2.2.1.1.2.1.2.2.1 hN6 hP4 hv.2.2.1 h2.2.2.1.2.1 hW.2.2.1.1 (a 1) with ⟨w, k1, ew, k0, k2, k3⟩ | ⟨k2, k3⟩
  · obtain ⟨σ1, g1, g2, g3⟩ := m_keepsAll σm
    obtain ⟨σx1, a1, a2, a3, a4⟩ := trial h1 h2 h3 g2.g
    obtain ⟨r, σx2, σ2, b1, b2, b3, b4⟩ := stops_loop hW.2.1.1 k1 200 0 FU FU σx1 σ1 (wS W) (by omega) (by omega) (by omega) a3 a4 (by omega) k0
    rw [k2, k3, bnd, bnd, if_neg one_ne, if_neg one_ne, a1, bnd, g1, bnd, ew]
    refine fin_sc (r := r) (σ3 := σm) hI1 b1 (a2.trans b3.sc) g2.g g3 b4.f2 (fun σ3 e => ?_)
    have b2' : b_X12_stops_19 FU (nI w) (-2) 0 σ1 = b_X12_stops_67 r σ2 := b2
    rw [b2']
    unfold b_X12_stops_67
    rw [e]; rfl
  · rw [k2, k3]; exact ⟨-1, σx, σm, rfl, rfl, hI1.up (by omega)⟩
/-! save -/
theorem save_loop {K P N : Nat} {L : Row2} (hW : WL K P N L) {p k0 : Nat} (hp : p < P) (hk0 : k0 < K) : ∀ (j k n n2 : Nat) (σx σm : MS) (S : Row2), k + j = 200 → j < n → j + 1 < n2 → Both 46 σx σm K P N L S → RlB σx → S 3 5 + j + 1 < 3000 →
    ∃ r σx' σm', b_X11_save_25 n (nI p) (nI k0) (nI k) σx = some (r, σx') ∧ b_X12_save_28 n2 (nI p) (nI k0) (-2) (nI k) σm = b_X12_save_80 r σm' ∧ FX 46 σx σx' ∧ FM σm σm'
  | 0, k, n + 1, n2 + 1, σx, σm, S, hk, _, _, h, hB, hh => by
    refine ⟨-2, σx, σm, ?_, ?_, FX.refl _ _, FM.refl _⟩
    · unfold b_X11_save_25
      rw [q_ln_le (by decide) (by omega), if_pos (by omega)]
    · unfold b_X12_save_28
      rw [q_ln_le (by decide) (by omega), if_pos (by omega)]
  | j + 1, k, n + 1, n2 + 2, σx, σm, S, hk, hj, hj2, h, hB, hh => by
    obtain ⟨⟨hK5, hP4, hN6, hf⟩, hW2, hW3, hW4⟩ := hW
    obtain ⟨m, σx1, σm1, S1, a1, a2, a3, a4, a5, a6, a7, a8, a9⟩ := hour_eq ⟨⟨hK5, hP4, hN6, hf⟩, hW2, hW3, hW4⟩ (Or.inr rfl) h hB (by omega)
    have e49 : sI σx 49 p = nI (S 2 p) := h.2.2.1.2.1 p (by omega)
    have e4 : sI σm 4 p = nI (S 2 p) := h.2.2.2.1.2.1 p hp
    have e24 : sI σx 24 k0 = nI (L 0 k0) := (h.1.2.1 k0 hk0).1
    have e2 : sI σm 2 k0 = nI (L 0 k0) := (h.2.1.2.1 k0 hk0).1
    have e5 : sI σm 1 5 = nI (S 3 5) := h.2.2.2.1.2.2.2.2
    have e46 : sI σx 46 5 = nI (S 3 5) := h.2.2.1.2.2.2.2
    have hs := (h.2.2.2.2.1.2.1 p (by omega)).1
    have hpr := (hW2 k0 hk0).1
    have bp : inb (nI p) 4 := in_n (by omega) (by decide)
    have bk : inb (nI k0) 5 := in_n (by omega) (by decide)
    by_cases hz : S 2 p < L 0 k0
    · obtain ⟨r, σx2, σm2, b1, b2, b3, b4⟩ := save_loop ⟨⟨hK5, hP4, hN6, hf⟩, hW2, hW3, hW4⟩ hp hk0 j (k + 1) n (n2 + 1) σx1 σm1 S1 (by omega) (by omega) (by omega) a4 (hB.fr a5.1) (by omega)
      refine ⟨r, σx2, σm2, ?_, ?_, a5.trans b3, a6.trans b4⟩
      · unfold b_X11_save_25
        rw [q_ln_le (by decide) (by omega), if_neg (by omega), chk_t bp, chk_t bk, ix_n (n := p) (by omega), ix_n (n := k0) (by omega), e49, e24, q_lt (by omega) (by omega), if_pos hz, a1, bnd, nI_1]
        exact b1
      · conv => lhs; unfold b_X12_save_28 b_X12_save_68
        rw [q_ln_le (by decide) (by omega), if_neg (by omega), if_pos rfl, chk_t bp, chk_t bk, ix_n (n := p) (by omega), ix_n (n := k0) (by omega), e4, e2, q_lt (by omega) (by omega), if_pos hz, a2, bnd, nI_1]
        exact b2
    · refine ⟨nI (S 3 5), σx, σm1, ?_, ?_, FX.refl _ _, a6⟩
      · unfold b_X11_save_25
        rw [q_ln_le (by decide) (by omega), if_neg (by omega), chk_t bp, chk_t bk, ix_n (n := p) (by omega), ix_n (n := k0) (by omega), e49, e24, q_lt (by omega) (by omega), if_neg hz, e46]
      · unfold b_X12_save_28 b_X12_save_68
        rw [q_ln_le (by decide) (by omega), if_neg (by omega), if_pos rfl, chk_t bp, chk_t bk, ix_n (n := p) (by omega), ix_n (n := k0) (by omega), e4, e2, q_lt (by omega) (by omega), if_neg hz, a2, bnd, nI_1, e5]
        unfold b_X12_save_28
        rw [if_neg (show ¬ nI (S 3 5) = -2 from fun e => by
          have := congrArg Int32.toInt e
          rw [nI_toInt (by omega)] at this
          have h2 : (-2 : Int32).toInt = -2 := by decide
          omega), ite_self]
  | _, _, 0, _, _, _, _, _, hn, _, _, _, _ => absurd hn (Nat.not_lt_zero _)
  | _, _, _, 0, _, _, _, _, _, hn, _, _, _ => absurd hn (Nat.not_lt_zero _)
  | _ + 1, _, _, 1, _, _, _, _, _, hn, _, _, _ => absurd hn (by omega)
theorem s_16 : StpK 16 := fun t a σx σm _ hI0 => by
  have hI1 := hI0
  obtain ⟨ow, W, Wi, RR, T, len, h1, h2, h3⟩ := hI0
  have hF := FU_big
  have hW := h3.2.2.1.1
  obtain ⟨⟨hK5, hP4, hN6, hf⟩, hW2, hW3, hW4⟩ := hW.2.1.1
  have hv := h1.2.2.2.1.v
  have h999 := hW.2.2.1.2
  show ∃ r σx' σm', f_X11_save (a 1) (a 2) σx = some (r, σx') ∧ f_X12_save (a 1) (a 2) σm = some (r, σm') ∧ Inv (t + 1) σx' σm'
  unfold f_X11_save b_X11_save_0 b_X11_save_16 f_X12_save b_X12_save_0 b_X12_save_16
  have fail : ∃ r σx' σm', some ((-1 : Int32), σx) = some (r, σx') ∧ some ((-1 : Int32), σm) = some (r, σm') ∧ Inv (t + 1) σx' σm' := ⟨-1, σx, σm, rfl, rfl, hI1.up (by omega)⟩
  rcases w_isPerson hv.1.2.1.2.1 h2.2.2.1.1.2.1.2.1 (by omega) (a 1) with ⟨p, k1, ep, k2, k3⟩ | ⟨k2, k3⟩
  · rw [k2, k3, bnd, bnd, if_neg one_ne, if_neg one_ne]
    rcases w_isKind hv.1.2.1.1 h2.2.2.1.1.2.1.1 (by omega) (a 2) with ⟨kk, l1, ek, l2, l3⟩ | ⟨l2, l3⟩
    · obtain ⟨σ1, g1, g2, g3⟩ := m_keepsAll σm
      obtain ⟨σx1, a1, a2, a3, a4⟩ := trial h1 h2 h3 g2.g
      obtain ⟨r, σx2, σ2, b1, b2, b3, b4⟩ := save_loop hW.2.1.1 k1 l1 200 0 FU FU σx1 σ1 (wS W) (by omega) (by omega) (by omega) a3 a4 (by omega)
      rw [l2, l3, bnd, bnd, if_neg one_ne, if_neg one_ne, a1, bnd, g1, bnd, ep, ek]
      refine fin_sc (r := r) (σ3 := σm) hI1 b1 (a2.trans b3.sc) g2.g g3 b4.f2 (fun σ3 e => ?_)
      have b2' : b_X12_save_28 FU (nI p) (nI kk) (-2) 0 σ1 = b_X12_save_80 r σ2 := b2
      rw [b2']
      unfold b_X12_save_80
      rw [e]; rfl
    · rw [l2, l3, bnd, bnd, if_pos rfl, if_pos rfl]; exact fail
  · rw [k2, k3, bnd, bnd, if_pos rfl, if_pos rfl]; exact fail
/-! value -/
theorem x_purses {a : Nat} {σ : MS} {S : Row2} (h : SX a σ S) : ∀ (j k n c : Nat), k + j = 4 → j < n → b_X8_allPurses_4 a n (nI c) (nI k) σ = some (nI (c + sumU (S 2) k j))
  | 0, k, n + 1, c, hk, _ => by
    unfold b_X8_allPurses_4 sumU
    rw [q_ln_le (by decide) (by omega), if_pos (by omega)]; rfl
  | j + 1, k, n + 1, c, hk, hn => by
    unfold b_X8_allPurses_4 sumU
    rw [q_ln_le (by decide) (by omega), if_neg (by omega), chk_t (in_n (show k < 4 by omega) (by decide)), ix_n (by omega), h.2.1 k (by omega), nI_add, nI_1, x_purses h j (k + 1) n (c + S 2 k) (by omega) (by omega), Nat.add_assoc]
  | _, _, 0, _, _, hn => absurd hn (Nat.not_lt_zero _)
theorem m_purses {σ : MS} {P N : Nat} {S : Row2} (h : SM σ P N S) (h3 : sI σ 1 3 = nI P) (hP : P ≤ 4) : ∀ (j k n c : Nat), k + j = P → j < n → b_X12_allPurses_4 n (nI c) (nI k) σ = some (nI (c + sumU (S 2) k j))
  | 0, k, n + 1, c, hk, _ => by
    unfold b_X12_allPurses_4 sumU
    rw [h3, q_le (by omega) (by omega), if_pos (by omega)]; rfl
  | j + 1, k, n + 1, c, hk, hn => by
    unfold b_X12_allPurses_4 sumU
    rw [h3, q_le (by omega) (by omega), if_neg (by omega), chk_t (in_n (show k < 4 by omega) (by decide)), ix_n (by omega), h.2.1 k (by omega), nI_add, nI_1, m_purses h h3 hP j (k + 1) n (c + S 2 k) (by omega) (by omega), Nat.add_assoc]
  | _, _, 0, _, _, hn => absurd hn (Nat.not_lt_zero _)
theorem w_purses {a : Nat} {σx σm : MS} {P N : Nat} {S : Row2} (hx : SX a σx S) (hm : SM σm P N S) (h3 : sI σm 1 3 = nI P) (hP : P ≤ 4) (hV : WS P N S) : f_X8_allPurses a σx = some (nI (sumU (S 2) 0 P)) ∧ f_X12_allPurses σm = some (nI (sumU (S 2) 0 P)) := by
  have hF := FU_big
  constructor
  · have e := x_purses hx 4 0 FU 0 rfl (by omega)
    obtain ⟨m, hm4⟩ : ∃ m, P + m = 4 := ⟨4 - P, by omega⟩
    have e2 : sumU (S 2) 0 4 = sumU (S 2) 0 P := by
      rw [← hm4, sumU_split m P 0, sumU_zero m (0 + P) (fun i h1 h2 => (hV.2.1 i (by omega)).2 (by omega)), Nat.add_zero]
    rw [Nat.zero_add, e2] at e
    exact e
  · have e := m_purses hm h3 hP P 0 FU 0 (by omega) (by omega)
    rw [Nat.zero_add] at e
    exact e
theorem s_22 : StpK 22 := fun t a σx σm _ hI0 => by
  have hI1 := hI0
  obtain ⟨ow, W, Wi, RR, T, len, h1, h2, h3⟩ := hI0
  have hF := FU_big
  have hW := h3.2.2.1.1
  obtain ⟨⟨hK5, hP4, hN6, hf⟩, hW2, hW3, hW4⟩ := hW.2.1.1
  have hv := h1.2.2.2.1.v
  have h999 := hW.2.2.1.2
  show ∃ r σx' σm', f_X11_value (a 1) (a 2) σx = some (r, σx') ∧ f_X12_value_ (a 1) (a 2) σm = some (r, σm') ∧ Inv (t + 1) σx' σm'
  unfold f_X11_value b_X11_value_0 b_X11_value_15 f_X12_value_ b_X12_value__0 b_X12_value__20
  have fail : ∃ r σx' σm', some ((-100000 : Int32), σx) = some (r, σx') ∧ some ((-100000 : Int32), σm) = some (r, σm') ∧ Inv (t + 1) σx' σm' := ⟨-100000, σx, σm, rfl, rfl, hI1.up (by omega)⟩
  rcases w_goes hv.1.2.1.2.2.1 h2.2.2.1.1.2.1.2.2.1 hN6 hP4 hv.2.2.1 h2.2.2.1.2.1 hW.2.2.1.1 (a 1) with ⟨w, k1, ew, k0, k2, k3⟩ | ⟨k2, k3⟩
  · rw [k2, k3, bnd, bnd, if_neg one_ne, if_neg one_ne]
    rcases w_plan (a 2) with ⟨n, n1, n48, en, l2, l3⟩ | ⟨l2, l3⟩
    · rw [l2, l3, bnd, bnd, if_neg one_ne, if_neg one_ne]
      obtain ⟨σ1, g1, g2, g3⟩ := m_keepsAll σm
      obtain ⟨σx1, a1, a2, a3, a4⟩ := trial h1 h2 h3 g2.g
      obtain ⟨c, σx2, σ2, S2, b1, b2, b3, b4, b5, b6, b7, _⟩ := go_eq hW.2.1.1 (show n ≤ 200 by omega) a3 a4 (by omega)
      obtain ⟨p1, p2⟩ := w_purses b3.2.2.1 b3.2.2.2.1 b3.2.1.1.2.1 hP4 b3.2.2.2.2.1
      obtain ⟨σ3, c1, c2, c3⟩ := back_kg g2.g g3 b6.f2
      obtain ⟨σx3, d1, d2, d3, d4⟩ := trial (h1.sc (a2.trans b5.sc)) h2 h3 c2
      obtain ⟨σx4, e1, e2, e3⟩ := x_lay d3.2.2.1 (show w < 6 by omega) d3.2.2.2.2.1.2.2.1.1
      obtain ⟨σ4, f1, f2, f3⟩ := m_drops d3.2.2.2.1 (show w < 6 by omega) d3.2.2.2.2.1.2.2.1.1
      have hb4 := d3.to d4 (Or.inr rfl) e3 f3 e2 f2 (d3.2.2.2.2.1.lay (show w < 6 by omega))
      obtain ⟨c', σx5, σ5, S5, q1, q2, q3, q4, q5, q6, q7, _⟩ := go_eq hW.2.1.1 (show n ≤ 200 by omega) hb4 (d4.fr e3.1) (by rw [aLay_35]; omega)
      obtain ⟨r1, r2⟩ := w_purses q3.2.2.1 q3.2.2.2.1 q3.2.1.1.2.1 hP4 q3.2.2.2.2.1
      refine fin_sc (r := nI (sumU (S2 2) 0 (wc W 2)) - nI (sumU (S5 2) 0 (wc W 2))) (σ3 := σm) (σx' := σx5) hI1 ?_ (((a2.trans b5.sc).trans d2).trans (e3.sc.trans q5.sc)) c2 c3 (f3.f2.trans q6.f2) (fun σ6 e => ?_)
      · rw [a1, bnd, en, b1, bnd, p1, bnd, d1, bnd, ew, e1, bnd, q1, bnd, r1]; rfl
      · rw [g1, bnd, en, b2, bnd, p2, bnd, c1, bnd, ew, f1, bnd, q2, bnd, r2, bnd, e]; rfl
    · rw [l2, l3, bnd, bnd, if_pos rfl, if_pos rfl]; exact fail
  · rw [k2, k3, bnd, bnd, if_pos rfl, if_pos rfl]; exact fail
end TT
end
