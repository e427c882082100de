/-! ===== pure: look, the works' loops ===== -/
section
theorem look_works {σx σm : MS} {N c : Nat} (hN : N ≤ 6) (hx4 : sI σx 23 4 = nI N) (hm4 : sI σm 1 4 = nI N) (hc : 0 < c) (hc7 : c ≤ 7) {m y2 : Int32} {g : Nat → Nat → Nat} (hX : ∀ w, w < N → f_X11_mostAlike m (nI w) σx = some (nI (mxU (g w) 0 5 0))) (hg : ∀ w, w < N → ∀ i, i < 5 → sI σm 44 (5 * w + i) = nI (g w i) ∧ g w i ≤ 7) : ∀ (j w f f' : Nat) (B C : Int32), w + j = N → j < f → j < f' → ∃ r, b_X11_look_91 f y2 m B C (nI w) σx = some (r, σx) ∧ b_X12_look_146 f' y2 (nI c) B C (nI w) σm = some (r, σm)
  | 0, w, f + 1, f' + 1, B, C, hw, _, _ => by
    conv => enter [1, r, 1]; unfold b_X11_look_91 b_X11_look_154
    conv => enter [1, r, 2]; unfold b_X12_look_146 b_X12_look_241 b_X12_look_252
    rw [hx4, hm4, q_le (by omega) (by omega), if_pos (show N ≤ w by omega), q_le (by omega) (by omega), if_pos (show N ≤ w by omega)]
    by_cases h : y2 = 0
    · exact ⟨B, by rw [if_pos h], by rw [if_pos h]⟩
    · exact ⟨C, by rw [if_neg h], by rw [if_neg h]⟩
  | j + 1, w, f + 1, f' + 1, B, C, hw, hf, hf' => by
    have hF := FU_big
    have e5 := m_row5 (b_X12_look_146 f') (show w < 6 by omega) (hg w (by omega)) (y2 := y2) (y3 := nI c) (y4 := B) (y5 := C) 5 0 FU 0 (by omega) (by omega) (by omega)
    have i1 := look_works hN hx4 hm4 hc hc7 (y2 := y2) hX hg j (w + 1) f f' (nI w) (nI (mxU (g w) 0 5 0)) (by omega) (by omega) (by omega)
    have i2 := look_works hN hx4 hm4 hc hc7 (y2 := y2) hX hg j (w + 1) f f' B C (by omega) (by omega) (by omega)
    have eX : b_X11_look_91 (f + 1) y2 m B C (nI w) σx = (if B = (-2 : Int32) then b_X11_look_91 f y2 m (nI w) (nI (mxU (g w) 0 5 0)) (nI (w + 1)) σx else if C ≤ nI (mxU (g w) 0 5 0) then b_X11_look_91 f y2 m B C (nI (w + 1)) σx else b_X11_look_91 f y2 m (nI w) (nI (mxU (g w) 0 5 0)) (nI (w + 1)) σx) := by
      conv => lhs; unfold b_X11_look_91 b_X11_look_129 b_X11_look_137
      rw [hx4, q_le (by omega) (by omega), if_neg (show ¬ N ≤ w by omega), hX w (by omega), bnd, nI_1]
    have eM : b_X12_look_146 (f' + 1) y2 (nI c) B C (nI w) σm = (if B = (-2 : Int32) then b_X12_look_146 f' y2 (nI c) (nI w) (nI (mxU (g w) 0 5 0)) (nI (w + 1)) σm else if C ≤ nI (mxU (g w) 0 5 0) then b_X12_look_146 f' y2 (nI c) B C (nI (w + 1)) σm else b_X12_look_146 f' y2 (nI c) (nI w) (nI (mxU (g w) 0 5 0)) (nI (w + 1)) σm) := by
      conv => lhs; unfold b_X12_look_146
      rw [hm4, q_le (by omega) (by omega), if_neg (show ¬ N ≤ w by omega), q_nl_le (by decide) (by omega), if_neg (show ¬ c ≤ 0 by omega), ln_mul]
      refine Eq.trans e5 ?_
      unfold b_X12_look_227 b_X12_look_235
      rw [nI_1]
    rw [eX, eM]
    by_cases h1 : B = (-2 : Int32)
    · rw [if_pos h1, if_pos h1]; exact i1
    · rw [if_neg h1, if_neg h1]
      by_cases h2 : C ≤ nI (mxU (g w) 0 5 0)
      · rw [if_pos h2, if_pos h2]; exact i2
      · rw [if_neg h2, if_neg h2]; exact i1
  | _, _, 0, _, _, _, _, hn, _ => absurd hn (Nat.not_lt_zero _)
  | _, _, _, 0, _, _, _, _, hn => absurd hn (Nat.not_lt_zero _)
end
