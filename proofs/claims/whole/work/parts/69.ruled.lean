/-! ===== pure: ruled ===== -/
section
theorem Both.m43 {σx σm σm' : MS} {K P N : Nat} {L S : Row2} (h : Both 46 σx σm K P N L S) (hr : ∀ b, b ≠ 43 → sI σm' b = sI σm b) : Both 46 σx σm' K P N L S := by
  obtain ⟨h1, h2, h3, h4, h5, h6⟩ := h
  refine ⟨h1, ?_, h3, ?_, h5, ?_⟩
  · unfold LM
    rw [hr 1 (by decide), hr 2 (by decide), hr 3 (by decide), hr 5 (by decide), hr 6 (by decide), hr 7 (by decide), hr 8 (by decide), hr 11 (by decide)]; exact h2
  · unfold SM
    rw [hr 1 (by decide), hr 4 (by decide), hr 9 (by decide), hr 10 (by decide)]; exact h4
  · rcases h6 with ⟨q1, q2⟩ | ⟨b, r, R, q1, q2, q3, q4, q5, q6⟩
    · exact Or.inl ⟨q1, by rw [hr 1 (by decide)]; exact q2⟩
    · exact Or.inr ⟨b, r, R, q1, q2, q3, by rw [hr 1 (by decide)]; exact q4, q5.fr (fun b q1 q2 => hr b (by omega)), q6⟩
theorem Both.w55 {σx σm : MS} {K P N : Nat} {L S : Row2} (h : Both 46 σx σm K P N L S) (hB : RlB σx) (f : Nat → Int32) : Both 46 (wW σx 55 f) σm K P N L S := by
  obtain ⟨h1, h2, h3, h4, h5, h6⟩ := h
  have hn : ∀ b, b ≠ 55 → sI (wW σx 55 f) b = sI σx b := fun b hb => sI_wWn _ _ _ hb
  refine ⟨h1.fr (fun b hb => hn b (by omega)), h2, h3.fr (fun b q1 q2 => hn b (by omega)), h4, h5, ?_⟩
  rcases h6 with ⟨q1, q2⟩ | ⟨b, r, R, q1, q2, q3, q4, q5, q6⟩
  · exact Or.inl ⟨q1, q2⟩
  · have := hB b q1
    exact Or.inr ⟨b, r, R, q1, ⟨q2.1, q2.2.1, q2.2.2.1, by rw [hn (b + 1) (by omega)]; exact q2.2.2.2⟩, q3, q4, q5, q6⟩
theorem ScX.w55 (σ : MS) (f : Nat → Int32) : ScX σ (wW σ 55 f) := ⟨rfl, rfl, fun _ _ => rfl, fun b hb => sI_wWn _ _ _ (by omega), by rw [sI_wWn _ _ _ (by decide)]⟩
def LgX (σ : MS) (W : Wd) : Prop := sI σ 22 8 = nI (wc W 6) ∧ ∀ i, i < wc W 6 → sI σ 40 i = nI (wG W 0 i) ∧ sI σ 41 i = nI (wG W 1 i) ∧ sI σ 42 i = hI (wG W 2 i)
def LgM (σ : MS) (W : Wd) : Prop := sI σ 1 7 = nI (wc W 6) ∧ ∀ i, i < wc W 6 → sI σ 12 i = nI (wG W 0 i) ∧ sI σ 13 i = nI (wG W 1 i) ∧ sI σ 14 i = hI (wG W 2 i)
theorem LgX.sc {σ σ' : MS} {W : Wd} (h : LgX σ W) (g : ScX σ σ') : LgX σ' W := by
  unfold LgX
  rw [g.2.2.2.1 22 (by omega), g.2.2.2.1 40 (by omega), g.2.2.2.1 41 (by omega), g.2.2.2.1 42 (by omega)]; exact h
theorem LgM.fr {σ σ' : MS} {W : Wd} (h : LgM σ W) (h7 : sI σ' 1 7 = sI σ 1 7) (hr : ∀ b, 12 ≤ b → b ≤ 14 → sI σ' b = sI σ b) : LgM σ' W := by
  unfold LgM
  rw [h7, hr 12 (by decide) (by decide), hr 13 (by decide) (by decide), hr 14 (by decide) (by decide)]; exact h
/-- what is shown of an hour -/
theorem shown_step (σ : MS) (k : Nat) (y2 : Int32) : ∃ σ', (∀ F : MS → Option (Int32 × MS), (if nI k = y2 then (f_X12_copies 9 6 43 6 σ).bind F else F σ) = F σ') ∧ Sm σ σ' ∧ (∀ b, b ≠ 43 → sI σ' b = sI σ b) ∧ (nI k = y2 → ∀ w, w < 6 → sI σ' 43 w = sI σ 9 w) ∧ (¬ nI k = y2 → sI σ' 43 = sI σ 43) := by
  by_cases h : nI k = y2
  · obtain ⟨σ', a1, a2, a3, a4⟩ := m_copies (a0 := 9) (a1 := 43) (n0 := 6) (n1 := 6) (by decide) (by decide) (by decide) σ
    exact ⟨σ', fun F => by rw [if_pos h, a1]; rfl, a2, a3, fun _ w hw => by rw [a4, if_pos hw], fun q => absurd h q⟩
  · exact ⟨σ, fun F => by rw [if_neg h], Sm.refl _, fun _ _ => rfl, fun q => absurd q h, fun _ => rfl⟩
section FF
variable {W : Wd}
theorem m_hour (hW : WW W) {σ : MS} {S : Row2} (hS : SM σ (wc W 2) (wc W 3) S) (hV : WS (wc W 2) (wc W 3) S) (hg : LgM σ W) {k a : Nat} (hk : k < 1000) (ha : a ≤ 1) (k17 : Int32 → Int32 → Int32 → MS → Option (Int32 × MS)) (y2 : Int32) : b_X12_couldRule_32 k17 FU y2 (nI a) (nI k) 0 σ = (if nI k = y2 then (f_X12_copies 9 6 43 6 σ).bind (fun r18 => k17 y2 (nI (if a = 0 then 0 else lgB W S k 0 (wc W 6))) (nI (k + 1)) r18) else k17 y2 (nI (if a = 0 then 0 else lgB W S k 0 (wc W 6))) (nI (k + 1)) σ) := by
  have hF := FU_big
  obtain ⟨_, hP4, hN6, _⟩ := hW.2.1.1.1
  have h10 := hW.1.2.2.2.1
  exact m_agrees k17 hS hg.1 h10 hg.2 hW.2.2.2.2.2 hN6 hP4 (hV.hs hP4) hk (wc W 6) 0 FU a (by omega) (by omega) ha
/-- the reference goes on to the last hour -/
theorem m_rest (hW : WW W) {L : Row2} (hL : WL (wc W 1) (wc W 2) (wc W 3) L) {y2 : Int32} : ∀ (j k fm a : Nat) (σx σm : MS) (S : Row2), k + j = 61 → j < fm → a ≤ 1 → (a = 1 → ∀ i, i < wc W 6 → wG W 0 i < k) → Both 46 σx σm (wc W 1) (wc W 2) (wc W 3) L S → RlB σx → S 3 5 = k → LgM σm W →
    ∃ σ2, b_X12_couldRule_17 fm y2 (nI a) (nI k) σm = (f_X12_laysBack σ2).bind (fun r27 => chk (nI a = 0 ∨ nI a = 1) (some (nI a, r27))) ∧ F2 σm σ2 ∧ sI σ2 44 = sI σm 44 ∧ (∀ la, y2 = nI la → la < k → sI σ2 43 = sI σm 43)
  | 0, k, fm + 1, a, σx, σm, S, hk, _, ha, _, h, hB, hh, hg => by
    refine ⟨σm, ?_, F2.refl _, rfl, fun _ _ _ => rfl⟩
    unfold b_X12_couldRule_17
    rw [q_ln_lt (by decide) (by omega), if_pos (by omega)]
  | j + 1, k, fm + 1, a, σx, σm, S, hk, hj, ha, hlog, h, hB, hh, hg => by
    obtain ⟨m, σx1, σm1, S1, a1, a2, a3, a4, a5, a6, a7, _⟩ := hour_eq hL (Or.inr rfl) h hB (by omega)
    have hg1 : LgM σm1 W := hg.fr (a6.2.2 7 (by decide) (by decide) (by decide)) (fun b q1 q2 => a6.2.1 b (by omega) (by omega) (by omega) (by omega))
    obtain ⟨σm2, b1, b2, b3, b4, b5⟩ := shown_step σm1 k y2
    have ea : (if a = 0 then 0 else lgB W S1 k 0 (wc W 6)) = a := by
      by_cases h0 : a = 0
      · rw [if_pos h0, h0]
      · rw [if_neg h0, lgB_none W S1 k (wc W 6) 0 (fun q _ q2 => by have := hlog (by omega) q (by omega); omega)]; omega
    obtain ⟨σ2, c1, c2, c3, c4⟩ := m_rest hW hL (y2 := y2) j (k + 1) fm a σx1 σm2 S1 (by omega) (by omega) ha (fun h1 i hi => by have := hlog h1 i hi; omega) (a4.m43 b3) (hB.fr a5.1) (by omega) (hg1.fr (by rw [b3 1 (by decide)]) (fun b q1 q2 => b3 b (by omega)))
    refine ⟨σ2, ?_, ?_, ?_, fun la e hl => ?_⟩
    · conv => lhs; unfold b_X12_couldRule_17
      rw [q_ln_lt (by decide) (by omega), if_neg (by omega), a2, bnd, m_hour hW a4.2.2.2.1 a4.2.2.2.2.1 hg1 (by omega) ha, ea]
      rw [b1 (fun r18 => b_X12_couldRule_17 fm y2 (nI a) (nI (k + 1)) r18)]
      exact c1
    · exact (a6.f2.trans ⟨b2, fun b _ _ _ q => b3 b q.2.1⟩).trans c2
    · rw [c3, b3 44 (by decide), a6.2.1 44 (by decide) (by decide) (by decide) (by decide)]
    · rw [c4 la e (by omega), b5 (fun z => by rw [e, nI_eq (by omega) (by omega)] at z; omega), a6.2.1 43 (by decide) (by decide) (by decide) (by decide)]
  | _, _, 0, _, _, _, _, _, hn, _, _, _, _, _, _ => absurd hn (Nat.not_lt_zero _)
/-- holders that were seen -/
def Sh (W : Wd) (q : Nat) (σx σm : MS) : Prop := ∃ H : Nat → Nat, (∀ w, w < 6 → sI σx 55 (q * 6 + w) = hI (H w)) ∧ (∀ w, w < wc W 3 → sI σm 43 w = hI (H w)) ∧ ∀ w, w < 6 → H w ≤ wc W 2
theorem fits_loop (hW : WW W) {q la hrs : Nat} {y2 : Int32} (hq : q ≤ 6) (hla : la < hrs) (hh61 : hrs ≤ 61) (hlog : ∀ i, i < wc W 6 → wG W 0 i < hrs) (hy : y2 = nI la ∨ y2 = -1) : ∀ (j k fx fm : Nat) (σx σm : MS) (S : Row2), k + j = hrs → j < fx → 61 - k < fm → Both 46 σx σm (wc W 1) (wc W 2) (wc W 3) (wL W) S → RlB σx → S 3 5 = k → LgX σx W → LgM σm W → (la < k → y2 = nI la → Sh W q σx σm) →
    ∃ b σx' σ2, b ≤ 1 ∧ b_X11_fitsLogs_47 fx (hI q) (nI la) (nI hrs) (nI k) σx = some (nI b, σx') ∧ b_X12_couldRule_17 fm y2 1 (nI k) σm = (f_X12_laysBack σ2).bind (fun r27 => chk (nI b = 0 ∨ nI b = 1) (some (nI b, r27))) ∧ ScX σx σx' ∧ F2 σm σ2 ∧ sI σ2 44 = sI σm 44 ∧ (b = 1 → y2 = nI la → Sh W q σx' σ2) ∧ (∀ i, i < q * 6 ∨ q * 6 + 6 ≤ i → sI σx' 55 i = sI σx 55 i)
  | 0, k, fx + 1, fm, σx, σm, S, hk, _, hfm, h, hB, hh, hgx, hgm, hsh => by
    obtain ⟨σ2, c1, c2, c3, c4⟩ := m_rest hW hW.2.1.1 (y2 := y2) (61 - k) k fm 1 σx σm S (by omega) hfm (by omega) (fun _ i hi => by have := hlog i hi; omega) h hB hh hgm
    refine ⟨1, σx, σ2, by omega, ?_, c1, ScX.refl _, c2, c3, fun _ e => ?_, fun _ _ => rfl⟩
    · unfold b_X11_fitsLogs_47
      rw [q_le (by omega) (by omega), if_pos (by omega)]; rfl
    · obtain ⟨H, d1, d2, d3⟩ := hsh (by omega) e
      exact ⟨H, d1, fun w hw => by rw [c4 la e (by omega)]; exact d2 w hw, d3⟩
  | j + 1, k, fx + 1, fm + 1, σx, σm, S, hk, hj, hfm, h, hB, hh, hgx, hgm, hsh => by
    have hF := FU_big
    obtain ⟨_, hP4, hN6, _⟩ := hW.2.1.1.1
    have h10 := hW.1.2.2.2.1
    obtain ⟨m, σx1, σm1, S1, a1, a2, a3, a4, a5, a6, a7, _⟩ := hour_eq hW.2.1.1 (Or.inr rfl) h hB (by omega)
    have hgm1 : LgM σm1 W := hgm.fr (a6.2.2 7 (by decide) (by decide) (by decide)) (fun b q1 q2 => a6.2.1 b (by omega) (by omega) (by omega) (by omega))
    have hgx1 : LgX σx1 W := hgx.sc a5.sc
    have hV1 := a4.2.2.2.2.1
    have eag : f_X10_agrees 46 (nI k) σx1 = some (nI (lgB W S1 k 0 (wc W 6))) := x_agrees a4.2.2.1 hgx1.1 h10 hgx1.2 hW.2.2.2.2.2 hN6 hP4 (hV1.hs hP4) (show k < 1000 by omega) (wc W 6) 0 FU (by omega) (by omega)
    obtain ⟨σm2, b1, b2, b3, b4, b5⟩ := shown_step σm1 k y2
    have hgm2 : LgM σm2 W := hgm1.fr (by rw [b3 1 (by decide)]) (fun b q1 q2 => b3 b (by omega))
    have f2 : F2 σm σm2 := a6.f2.trans ⟨b2, fun b _ _ _ q => b3 b q.2.1⟩
    have e44 : sI σm2 44 = sI σm 44 := by rw [b3 44 (by decide), a6.2.1 44 (by decide) (by decide) (by decide) (by decide)]
    have e55 : sI σx1 55 = sI σx 55 := a5.2 55 (by omega)
    have eM : b_X12_couldRule_17 (fm + 1) y2 1 (nI k) σm = b_X12_couldRule_17 fm y2 (nI (lgB W S1 k 0 (wc W 6))) (nI (k + 1)) σm2 := by
      have mh := m_hour hW a4.2.2.2.1 hV1 hgm1 (show k < 1000 by omega) (show 1 ≤ 1 by omega) (b_X12_couldRule_17 fm) y2
      rw [if_neg (show ¬ (1 : Nat) = 0 by decide), b1 (fun r18 => b_X12_couldRule_17 fm y2 (nI (lgB W S1 k 0 (wc W 6))) (nI (k + 1)) r18)] at mh
      have mh' : b_X12_couldRule_32 (b_X12_couldRule_17 fm) FU y2 1 (nI k) 0 σm1 = _ := mh
      conv => lhs; unfold b_X12_couldRule_17
      rw [q_ln_lt (by decide) (by omega), if_neg (by omega), a2, bnd]
      exact mh'
    rw [eM]
    rcases lgB_01 W S1 k (wc W 6) 0 with hc | hc
    · rw [hc]
      obtain ⟨σ2, c1, c2, c3, c4⟩ := m_rest hW hW.2.1.1 (y2 := y2) (60 - k) (k + 1) fm 0 σx1 σm2 S1 (by omega) (by omega) (by omega) (fun z => absurd z (by decide)) (a4.m43 b3) (hB.fr a5.1) (by omega) hgm2
      refine ⟨0, σx1, σ2, by omega, ?_, c1, a5.sc, f2.trans c2, c3.trans e44, fun z => absurd z (by decide), fun i _ => by rw [e55]⟩
      unfold b_X11_fitsLogs_47
      rw [q_le (by omega) (by omega), if_neg (by omega), a1, bnd, eag, bnd, hc, if_pos (show nI 0 = 0 from rfl)]; rfl
    · rw [hc]
      have eq1 : hI q + 1 = nI q := by rw [hI_1, hI_s]
      have e6 : ix (nI (q * 6)) = q * 6 := ix_n (by omega)
      by_cases hkl : k = la
      · subst hkl
        have sc1 : ScX σx (wW σx1 55 (va_cpy (sI σx1 47) (sI σx1 55) 0 (q * 6) 6)) := a5.sc.trans (ScX.w55 _ _)
        obtain ⟨b, σx', σ2, d1, d2, d3, d4, d5, d6, d7, d8⟩ := fits_loop hW hq hla hh61 hlog hy j (k + 1) fx fm (wW σx1 55 (va_cpy (sI σx1 47) (sI σx1 55) 0 (q * 6) 6)) σm2 S1 (by omega) (by omega) (by omega) ((a4.m43 b3).w55 (hB.fr a5.1) _) (fun b hb => hB.fr a5.1 b hb) (by omega) (hgx.sc sc1) hgm2 (fun _ e => by
          refine ⟨fun w => S1 0 w, fun w hw => ?_, fun w hw => ?_, fun w hw => (hV1.1 w hw).1⟩
          · rw [sI_wWs, pk_cpy_in (by omega) (by omega), show 0 + (q * 6 + w - q * 6) = w by omega]
            exact (a4.2.2.1.1 w hw).1
          · rw [b4 e.symm w (by omega)]
            exact (a4.2.2.2.1.1 w hw).1)
        refine ⟨b, σx', σ2, d1, ?_, d3, sc1.trans d4, f2.trans d5, d6.trans e44, d7, fun i hi => ?_⟩
        · unfold b_X11_fitsLogs_47 b_X11_fitsLogs_112
          rw [q_le (by omega) (by omega), if_neg (by omega), a1, bnd, eag, bnd, hc, if_neg (show ¬ nI 1 = 0 by decide), if_pos rfl, eq1, nl_mul, e6, i0, i6, chk_t ⟨by decide, nI_pos (by omega), by decide, by decide, by omega⟩, nI_1]
          exact d2
        · rw [d8 i hi, sI_wWs, pk_cpy_out (by omega), e55]
      · obtain ⟨b, σx', σ2, d1, d2, d3, d4, d5, d6, d7, d8⟩ := fits_loop hW hq hla hh61 hlog hy j (k + 1) fx fm σx1 σm2 S1 (by omega) (by omega) (by omega) (a4.m43 b3) (hB.fr a5.1) (by omega) hgx1 hgm2 (fun hlt e => by
          obtain ⟨H, g1, g2, g3⟩ := hsh (by omega) e
          refine ⟨H, fun w hw => by rw [e55]; exact g1 w hw, fun w hw => ?_, g3⟩
          rw [b5 (fun z => by rw [e, nI_eq (by omega) (by omega)] at z; omega), a6.2.1 43 (by decide) (by decide) (by decide) (by decide)]
          exact g2 w hw)
        refine ⟨b, σx', σ2, d1, ?_, d3, a5.sc.trans d4, f2.trans d5, d6.trans e44, d7, fun i hi => by rw [d8 i hi, e55]⟩
        unfold b_X11_fitsLogs_47 b_X11_fitsLogs_112
        rw [q_le (by omega) (by omega), if_neg (by omega), a1, bnd, eag, bnd, hc, if_neg (show ¬ nI 1 = 0 by decide), q_eq (by omega) (by omega), if_neg hkl, nI_1]
        exact d2
  | _, _, 0, _, _, _, _, _, hn, _, _, _, _, _, _, _ => absurd hn (Nat.not_lt_zero _)
  | _ + 1, _, _ + 1, 0, _, _, _, _, _, hn, _, _, _, _, _, _ => absurd hn (Nat.not_lt_zero _)
end FF
end
