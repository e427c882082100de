/-! ===== pure: look ===== -/
section
section LK
variable {t : Nat} {ow : Nat → Nat} {W : Wd} {Wi : Nat → Option Wd} {RR : List (List Cls)} {T : Nat → Nat} {len : Nat} {σm : MS}
theorem look_loop (hm : IM W Wi RR T len σm) (ho : OKW W Wi RR T len) {la : Nat} (hla : la ≤ 60) (y2 : Int32) : ∀ (j q fx fm : Nat) (F : Nat → Bool) (Hf : Nat → Nat → Nat) (σx σ1 : MS), IX t ow W Wi RR T len σx → KG σm σ1 → KB σm σ1 → q + j = RR.length + 1 → j < fx → j < fm →
    (∀ p, p < q → F p = true → ∀ w, w < 6 → sI σx 55 (p * 6 + w) = hI (Hf p w) ∧ Hf p w ≤ wc W 2) → (∀ v i, v < wc W 3 → i < 5 → sI σ1 44 (5 * v + i) = nI (cA F Hf v i q)) →
    ∃ r σx' σ', b_X11_look_39 fx (nI la) y2 (nI (msk F q)) (hI q) σx = some (r, σx') ∧ b_X12_look_64 fm (nI la) y2 (nI (cntB F q)) (hI q) σ1 = some (r, σ') ∧ ScX σx σx' ∧ KG σm σ'
  | 0, q, fx + 1, fm + 1, F, Hf, σx, σ1, hx, hk, hb, hj, _, _, hs, h44 => by
    have hRR := ho.2.1.1
    have ex : sI σx 0 11 = nI RR.length := hx.2.2.1.1
    have em : sI σ1 0 33 = nI RR.length := by rw [hk.2.1 33 (by decide) (by decide)]; exact hm.2.1.1
    have hq : q = RR.length + 1 := by omega
    subst hq
    have cl : nI RR.length ≤ hI (RR.length + 1) := (nh_le (by omega) (by omega)).mpr (by omega)
    obtain ⟨r, e1, e2⟩ := look_end hm ho hx hk (y2 := y2) hs h44
    refine ⟨r, σx, σ1, ?_, ?_, ScX.refl _, hk⟩
    · conv => lhs; unfold b_X11_look_39
      rw [ex, if_pos cl]; exact e1
    · conv => lhs; unfold b_X12_look_64
      rw [em, if_pos cl]; exact e2
  | j + 1, q, fx + 1, fm + 1, F, Hf, σx, σ1, hx, hk, hb, hj, h1, h2, hs, h44 => by
    have hF := FU_big
    have hRR := ho.2.1.1
    have hW := ho.2.2.1.1
    obtain ⟨⟨hK5, hP4, hN6, _⟩, _⟩ := hW.2.1.1
    have ex : sI σx 0 11 = nI RR.length := hx.2.2.1.1
    have em : sI σ1 0 33 = nI RR.length := by rw [hk.2.1 33 (by decide) (by decide)]; exact hm.2.1.1
    have cl : ¬ nI RR.length ≤ hI q := fun h => by have := (nh_le (by omega) (by omega)).mp h; omega
    obtain ⟨b, σx2, σ3, d1, d2, d3, d4, d5, d6, d7, d8, d9⟩ := fits_eq hm ho hx hk hb (show q ≤ RR.length by omega) hla (y2 := nI la) (Or.inl rfl)
    have hs2 : ∀ p, p < q → F p = true → ∀ w, w < 6 → sI σx2 55 (p * 6 + w) = hI (Hf p w) ∧ Hf p w ≤ wc W 2 := fun p hp hF w hw => by
      rw [d9 (p * 6 + w) (by omega)]; exact hs p hp hF w hw
    rcases (by omega : b = 0 ∨ b = 1) with rfl | rfl
    · have eF : ∀ i, i < q → F i = upF F q false i := fun i hi => (upF_n F false (by omega)).symm
      obtain ⟨r, σx', σ', k1, k2, k3, k4⟩ := look_loop hm ho hla y2 j (q + 1) fx fm (upF F q false) Hf σx2 σ3 (hx.sc d4) d5 d6 (by omega) (by omega) (by omega) (fun p hp hT w hw => by
        by_cases e : p = q
        · subst e; rw [upF_s] at hT; cases hT
        · rw [upF_n _ _ e] at hT; exact hs2 p (by omega) hT w hw) (fun v i hv hi => by
        rw [d7, h44 v i hv hi, cA_s, upF_s, if_neg (fun z => by cases z.1), Nat.add_zero, cA_cong (fun p hp => ⟨eF p hp, rfl⟩)])
      rw [msk_s, upF_s, ← msk_cong eF] at k1
      rw [cntB_s, upF_s, ← cntB_cong eF] at k2
      refine ⟨r, σx', σ', ?_, ?_, d4.trans k3, k4⟩
      · conv => lhs; unfold b_X11_look_39 b_X11_look_67
        rw [ex, if_neg cl, d2, bnd, if_pos (show nI 0 = 0 from rfl), hI_1]; exact k1
      · conv => lhs; unfold b_X12_look_64 b_X12_look_129
        rw [em, if_neg cl, d3, bnd, if_pos (show nI 0 = 0 from rfl), hI_1]; exact k2
    · have eF : ∀ i, i < q → F i = upF F q true i := fun i hi => (upF_n F true (by omega)).symm
      obtain ⟨H, s1, s2, s3⟩ := d8 rfl rfl
      have m4 : sI σ3 1 4 = nI (wc W 3) := by rw [d5.2.2.2.1.1 4 (by decide)]; exact hm.2.2.1.1.2.1.2.2.1
      obtain ⟨σ4, t1, t2, t3, t4⟩ := m_tab hN6 hP4 (fun w hw => s3 w (by omega)) (b_X12_look_64 fm) (y1 := nI la) (y2 := y2) (y3 := nI (cntB F q + 1)) (y4 := hI q) (wc W 3) 0 FU σ3 (fun v i => cA F Hf v i q) (by omega) (by omega) m4 s2 (fun v i hv hi => by rw [d7]; exact h44 v i hv hi)
      have kg4 : KG σm σ4 := ⟨⟨t2.1.trans d5.1.1, t2.2.1.trans d5.1.2.1, t2.2.2.trans d5.1.2.2⟩, fun i q1 q2 => by rw [t3 0 (by decide)]; exact d5.2.1 i q1 q2, fun b q0 q1 q2 q3 q4 q5 => by rw [t3 b q5.2.2]; exact d5.2.2.1 b q0 q1 q2 q3 q4 q5, ⟨by rw [t3 1 (by decide)]; exact d5.2.2.2.1.1, by rw [t3 4 (by decide)]; exact d5.2.2.2.1.2.1, by rw [t3 9 (by decide)]; exact d5.2.2.2.1.2.2.1, by rw [t3 10 (by decide)]; exact d5.2.2.2.1.2.2.2⟩, by rw [t3 45 (by decide)]; exact d5.2.2.2.2⟩
      have kb4 : KB σm σ4 := by
        unfold KB
        rw [t3 45 (by decide)]; exact d6
      obtain ⟨r, σx', σ', k1, k2, k3, k4⟩ := look_loop hm ho hla y2 j (q + 1) fx fm (upF F q true) (upH Hf q H) σx2 σ4 (hx.sc d4) kg4 kb4 (by omega) (by omega) (by omega) (fun p hp hT w hw => by
        by_cases e : p = q
        · subst e; rw [upH_s]; exact ⟨s1 w hw, s3 w hw⟩
        · rw [upF_n _ _ e] at hT; rw [upH_n _ _ e]; exact hs2 p (by omega) hT w hw) (fun v i hv hi => by
        rw [t4 v i hv hi, cA_s, upF_s, upH_s, cA_cong (F' := upF F q true) (Hf' := upH Hf q H) (fun p hp => ⟨eF p hp, (upH_n Hf H (by omega)).symm⟩)]
        by_cases e : H v = i
        · rw [if_pos ⟨Nat.zero_le _, e⟩, if_pos ⟨rfl, e⟩]
        · rw [if_neg (fun z => e z.2), if_neg (fun z => e z.2)])
      rw [msk_s, upF_s, ← msk_cong eF] at k1
      rw [cntB_s, upF_s, ← cntB_cong eF] at k2
      refine ⟨r, σx', σ', ?_, ?_, d4.trans k3, k4⟩
      · conv => lhs; unfold b_X11_look_39 b_X11_look_67
        rw [ex, if_neg cl, d2, bnd, if_neg (show ¬ nI 1 = 0 by decide), hI_1, hI_s, b7_or q (by omega) _ (msk_lt F q)]
        rw [hI_s] at k1; exact k1
      · conv => lhs; unfold b_X12_look_64
        rw [em, if_neg cl, d3, bnd, if_neg (show ¬ nI 1 = 0 by decide), nI_1]
        refine Eq.trans t1 ?_
        rw [hI_1]; exact k2
  | _, _, 0, _, _, _, _, _, _, _, _, _, hn, _, _, _ => absurd hn (Nat.not_lt_zero _)
  | _, _, _, 0, _, _, _, _, _, _, _, _, _, hn, _, _ => absurd hn (Nat.not_lt_zero _)
end LK
end
