/-! ===== pure: a test, a step at a wanted fact ===== -/
section TA
variable {len : Nat} {T : Nat → Nat}
def TP (T : Nat → Nat) (len p p0 : Nat) (σx σm : MS) : Prop := TX len T σx ∧ TM len T σm ∧ p ≤ len ∧ sI σx 20 1 = nI p ∧ p0 ≤ len ∧ sI σm 0 30 = nI p0 ∧ skB T len p0 = skB T len p ∧ sI σx 20 6 = 0 ∧ sI σm 0 31 = 0
def TN (b p y N v : Nat) (W : List Nat) : Prop := y ≤ p ∧ 3 * N ≤ p ∧ v ≤ 60 ∧ 3 * nLk W + 3 * b ≤ v ∧ okS 12 W ∧ dW W ≤ 10
def TE (r b N v part : Nat) (c0 e0 X : List Ent) (pd W : List Nat) (σx σm : MS) : Prop := CV σx part (dW W) v (pd ++ W) (c0 ++ X) ∧ EM σm r (e0 ++ (X ++ op0 pd)) v ∧ TK σm (dW W) W ∧ (∀ o, o ∈ pd → o < 12 ∧ 4 ≤ lev o) ∧ pd.length ≤ 3 ∧ tys 50 (X ++ op0 pd) [] = some (List.replicate (nLk W + b) true) ∧ e0.length + (X ++ op0 pd).length + nAw W + b ≤ 2 * v + N
/-- a fact is wanted -/
def TWant (T : Nat → Nat) (len r p y : Nat) (c0 e0 : List Ent) (σx σm : MS) : Prop := ∃ p0 N v part X W, TP T len p p0 σx σm ∧ TN 0 p y N v W ∧ TE r 0 N v part c0 e0 X [] W σx σm ∧ sI σx 17 3 = 1
/-- one has been read -/
def THas (T : Nat → Nat) (len r p y : Nat) (c0 e0 : List Ent) (σx σm : MS) : Prop := ∃ p0 N v part X pd W, TP T len p p0 σx σm ∧ TN 1 p y N v W ∧ TE r 1 N v part c0 e0 X pd W σx σm ∧ (sI σx 17 3 = 3 ∨ (sI σx 17 3 = 2 ∧ part = 2 ∧ ¬ (skB T len p < len ∧ sgS (T (skB T len p)))))
theorem tok_s1 {q c : Nat} {σ : MS} (hq : q < len) (hc : T q = c) (h : ¬ (48 ≤ c ∧ c ≤ 57) ∧ ¬ (97 ≤ c ∧ c ≤ 122) ∧ c ≠ 60 ∧ c ≠ 62) (tk : TokX 20 T len q σ) : sI σ 20 1 = nI (q + 1) := by
  subst hc
  rcases tk with ⟨g, _⟩ | ⟨_, g, _⟩ | ⟨_, g, _⟩ | ⟨_, _, _, _, g | g⟩
  · omega
  · exact absurd g h.1
  · exact absurd g h.2.1
  · have := g.1; omega
  · exact g.2.2
theorem m_testF {n f : Nat} {z1 z2 : Int32} {σ : MS} (hf : f ≠ 0) (hf2 : f ≤ 4000) (h : sI σ 0 31 = nI f) : b_X12_test_9 (n + 1) z1 z2 σ = some σ := by
  show (if z2 = 0 then (b_X12_test_202 σ) else (if (sI σ 0 31) = 0 then _ else (b_X12_test_202 σ))) = _
  rw [if_neg (show ¬ sI σ 0 31 = 0 by rw [h, n_zero (by omega)]; exact hf)]
  split <;> rfl
theorem m_test0 {n : Nat} {z1 : Int32} (σ : MS) : b_X12_test_9 (n + 1) z1 0 σ = some σ := rfl
theorem EM.w30 {σ : MS} {r v : Nat} {es : List Ent} (h : EM σ r es v) (x : Int32) : EM (wI σ 0 30 x) r es v := h.fr (FR.w30 σ x)
theorem st_A (hl : len ≤ 400) (hT : ∀ i, i < len → T i < 256) {r p y : Nat} {c0 e0 : List Ent} {σx σm : MS} (hr : r < 6) (hc0 : c0.length ≤ e0.length + 12) (h : TWant T len r p y c0 e0 σx σm) :
    ∃ z y' σx' σm', (∀ n, b_X12_test_9 (n + 1) 1 1 σm = b_X12_test_9 n z 1 σm') ∧ Rn y σx y' σx' ∧ FC σx σx' ∧ FQ r σm σm' ∧ ((z = 1 ∧ ∃ p', p < p' ∧ TWant T len r p' y' c0 e0 σx' σm') ∨ (z = 0 ∧ ∃ p', p < p' ∧ THas T len r p' y' c0 e0 σx' σm') ∨ Flt2 T len σx' σm') := by
  obtain ⟨p0, N, v, part, X, W, ⟨tx, tm, hp, e1, hp0, e30, hsk, h6, e31⟩, ⟨n1, n2, n3, n4, n5, n6⟩, ⟨hC, hE, hK, _, _, hty, hb⟩, h3⟩ := h
  obtain ⟨q1, q2⟩ := skB_le T hp
  have hWm := okS.mem (by decide) n5
  have hWl := cnt4 W hWm
  have hAw : nLk W ≤ nAw W := by unfold nAw; omega
  have hX0 : X ++ op0 [] = X := by simp [op0]
  rw [hX0] at hE hty hb
  obtain ⟨σ1, a1, a2, a3, a4, a5, a6⟩ := it_fact (y := y) (ws := W) hl hT tx hp e1 h6 h3 (by omega) hC n6 (by omega)
  obtain ⟨σb, b1, b2, b3, b4⟩ := m_blanks hl hT (p := p0) (by omega) tm e30
  rw [hsk] at b4
  generalize hq : skB T len p = q at *
  have tmb : TM len T σb := tm.fr b2
  have hEb : EM σb r (e0 ++ X) v := hE.fr b2
  have hKb : TK σb (dW W) W := hK.fr b2
  have e31b : sI σb 0 31 = 0 := by rw [b3]; exact e31
  have hst := m_stood (k := 20) hl hT (by decide) tmb (by omega) b4
  have hfact : ∀ n, b_X12_test_9 (n + 1) 1 1 σm = (f_X12_fact σm).bind (fun r45 => (if r45.1 = 0 then (b_X12_test_36 (b_X12_test_9 n) 1 1 r45.2) else (b_X12_test_36 (b_X12_test_9 n) 1 0 r45.2))) := fun n => by
    show (if (1 : Int32) = 0 then _ else (if (sI σm 0 31) = 0 then (if (1 : Int32) = 0 then _ else _) else _)) = _
    rw [if_neg (show ¬ (1 : Int32) = 0 by decide), if_pos e31, if_neg (show ¬ (1 : Int32) = 0 by decide)]
  have hlenX : (e0 ++ X).length = e0.length + X.length := by simp
  -- one deeper
  have deep : ∀ (k s : Nat), (k = 12 ∨ k = 15) → ((q < len ∧ T q = 91) ∨ mtN T len q 20 = 1) → (if q < len ∧ T q = 91 then 15 else 12) = k → sI σ1 20 1 = nI (q + s) → q + s ≤ len → 1 ≤ s → (k = 12 → s = 3) → (∀ σo, f_X12_opens (nI (k - 3)) σb = some σo → sI σo 0 30 = nI q → f_X12_fact σm = some (0, wI σo 0 30 (nI (q + s)))) →
      ∃ z y' σx' σm', (∀ n, b_X12_test_9 (n + 1) 1 1 σm = b_X12_test_9 n z 1 σm') ∧ Rn y σx y' σx' ∧ FC σx σx' ∧ FQ r σm σm' ∧ ((z = 1 ∧ ∃ p', p < p' ∧ TWant T len r p' y' c0 e0 σx' σm') ∨ (z = 0 ∧ ∃ p', p < p' ∧ THas T len r p' y' c0 e0 σx' σm') ∨ Flt2 T len σx' σm') := by
    intro k s hk ho hif g1 g2 g3 g4 hfa
    obtain ⟨σ', d1, d2, d3, d4, d5, d6⟩ := a5 ho
    rw [hif] at d5
    obtain ⟨σo, o1, o2, o3, o4⟩ := m_openD (k := k) hk hKb hEb (by omega) n6 b4 e31b
    have hf := hfa σo o1 o3
    have hrun : ∀ n, b_X12_test_9 (n + 1) 1 1 σm = b_X12_test_9 n 1 1 (wI σo 0 30 (nI (q + s))) := fun n => by
      rw [hfact, hf, bnd]; rfl
    refine ⟨1, y + 1, σ', wI σo 0 30 (nI (q + s)), hrun, d1, d2, (b2.f2 r).trans (o2.trans (FQ.w0 r _ _ (by decide))), ?_⟩
    have hdk : dW (k :: W) = dW W + 1 := by rcases hk with h | h <;> subst h <;> unfold dW <;> simp <;> omega
    have hnk : nLk (k :: W) = nLk W := by rcases hk with h | h <;> subst h <;> unfold nLk <;> simp
    rcases o4 with ⟨c1, o5, o6, o7⟩ | ⟨c1, o5⟩
    · rcases d6 with ⟨_, d7⟩ | ⟨c2, _⟩
      · refine Or.inl ⟨rfl, q + s, by omega, q + s, (if k = 12 then N + 1 else N), v, part, X, k :: W, ⟨tx.fc d2, (tmb.fw o2).fr (FR.w30 _ _), g2, by rw [d4]; exact g1, g2, by rw [sI_r, if_pos rfl], rfl, d7, by rw [sI_r, if_neg (by decide)]; exact o7⟩, ⟨by omega, ?_, n3, by rw [hnk]; exact n4, ?_, by omega⟩, ⟨by rw [hdk]; exact d5, ?_, ?_, fun o ho => (by cases ho), by decide, by rw [hX0, hnk]; exact hty, ?_⟩, d3⟩
        · split
          · rename_i hh; have := g4 hh; omega
          · omega
        · rcases hk with h | h
          · subst h; exact Or.inr ⟨by decide, by decide, n5⟩
          · subst h; exact Or.inl ⟨rfl, n5⟩
        · rw [hX0]; exact o6.w30 _
        · rw [hdk]; exact o5.fr (FR.w30 _ _)
        · rw [hX0]
          rcases hk with h | h
          · subst h
            rw [if_pos rfl]
            have : nAw (12 :: W) = nAw W + 1 := by unfold nAw; rw [hnk]; simp; omega
            omega
          · subst h
            rw [if_neg (by decide)]
            have : nAw (15 :: W) = nAw W := by unfold nAw; rw [hnk]; simp
            omega
      · exact absurd c1 c2
    · rcases d6 with ⟨c2, _⟩ | ⟨_, d7⟩
      · exact absurd c2 c1
      · exact Or.inr (Or.inr ⟨1 + 8 * q + 2, by omega, by omega, d7, ⟨(tmb.fw o2).fr (FR.w30 _ _), ⟨q + s, by omega, by rw [sI_r, if_pos rfl]⟩, by rw [sI_r, if_neg (by decide)]; exact o5⟩⟩)
  by_cases cn : mtN T len q 20 = 1
  · have hch := mt_chr (by decide) cn
    rw [chr_5.2.2.2.2] at hch
    obtain ⟨w1, w2⟩ := tok_wd (by decide) (by rw [chr_5.2.2.2.2]; decide) q2 cn a4
    refine deep 12 3 (Or.inl rfl) (Or.inr cn) (if_neg (by rw [hch]; omega)) w1 w2 (by decide) (fun _ => rfl) (fun σo o1 o3 => ?_)
    unfold f_X12_fact b_X12_fact_0
    rw [b1, bnd, hst, bnd, cn, if_neg (show ¬ nI 1 = 0 by decide), show (9 : Int32) = nI (12 - 3) from rfl, o1, bnd, o3, nl_add]
  · have h01 := mtN_01 T len q 20
    have cz : mtN T len q 20 = 0 := by omega
    have hsg := m_sign tmb hl hT (by omega) b4
    by_cases cb : q < len ∧ T q = 91
    · refine deep 15 1 (Or.inr rfl) (Or.inl cb) (if_pos cb) (tok_s1 cb.1 cb.2 (by decide) a4) (by omega) (by decide) (fun h => by cases h) (fun σo o1 o3 => ?_)
      unfold f_X12_fact b_X12_fact_0
      rw [b1, bnd, hst, bnd, cz, if_pos (show nI 0 = 0 from rfl), hsg, bnd, if_pos (show hI (cc T len q) = (91 : Int32) from (ccI (c := 91) (by decide) hT).mpr cb), show (12 : Int32) = nI (15 - 3) from rfl, o1, bnd, o3, nl_add]
    · have ho : ¬ ((q < len ∧ T q = 91) ∨ mtN T len q 20 = 1) := fun h => h.elim cb cn
      have ia := a6 ho
      have f17 : FC σ1 (wI (wI σ1 17 4 1) 17 3 0) := (FC.w _ _ _ (by decide)).trans (FC.w _ _ _ (by decide))
      have e20 : sI (wI (wI σ1 17 4 1) 17 3 0) 20 = sI σ1 20 := by rw [sI_wIn _ _ _ _ (by decide), sI_wIn _ _ _ _ (by decide)]
      have hC1 : CV (wI (wI σ1 17 4 1) 17 3 0) 1 (dW W) v W (c0 ++ X) := ((hC.fa a1).pt 1).w 0
      have hskq : skB T len q = q := by rw [← hq]; exact skB_skB T hp
      obtain ⟨s, y', σx', σm', k1, k2, krn, k3, k4, k5⟩ := j_cmp (B := N) (x := nAw W) (y := y) (ws := W) (p0 := q) hl hT ((tx.fa a1 (by decide) (by decide)).fc f17) (a4.w17.w17) (by rw [e20]; exact a3) (by rw [e20]; exact a2) q2 hC1 n3 tmb b4 q2 hskq e31b hEb hr (by omega) (by omega) (fun o u' hu => by
        have := hWm o (by rw [hu]; simp)
        rcases (by omega : o = 12 ∨ o = 13 ∨ o = 14 ∨ o = 15) with e | e | e | e <;> subst e <;> decide) (by omega) (by simp; omega) (by omega) (by omega)
      have hfa : f_X12_fact σm = some (1, σm') := by
        unfold f_X12_fact b_X12_fact_0
        rw [b1, bnd, hst, bnd, cz, if_pos (show nI 0 = 0 from rfl), hsg, bnd, if_neg (show ¬ hI (cc T len q) = (91 : Int32) from fun h => cb ((ccI (c := 91) (by decide) hT).mp h)), k1, bnd]
      refine ⟨0, y', σx', σm', fun n => by rw [hfact, hfa, bnd]; rfl, (Rn.one (fun n => by rw [ia, k2, bnd])).trans krn, a1.fc.trans (f17.trans k3), (b2.f2 r).trans k4, ?_⟩
      rcases k5 with ⟨⟨p', v', X2, pd2, ⟨w1, w2, w3, w4, w5, w6, w7⟩, u0, u1, u2, u3, u4, u5, u6, u7, u8, u9, u10, u11, u12⟩, fs⟩ | hF
      · refine Or.inr (Or.inl ⟨rfl, p', by omega, skB T len p', N, v', 2, X ++ X2, pd2, W, ⟨w1, w2, w3, w4, (skB_le T w3).2, w5, skB_skB T w3, w6, w7⟩, ⟨u2, by omega, u4, by omega, n5, n6⟩, ⟨?_, ?_, hKb.fs fs, u8, u9, ?_, ?_⟩, Or.inr ⟨u5, rfl, u12⟩⟩)
        · rw [← List.append_assoc]; exact u6
        · have e : e0 ++ (X ++ X2 ++ op0 pd2) = e0 ++ X ++ (X2 ++ op0 pd2) := by simp
          rw [e]; exact u7
        · rw [List.append_assoc, tys_app, hty]
          show tys 50 (X2 ++ op0 pd2) (List.replicate (nLk W) true) = _
          rw [u10 _ (by simp; omega)]; rfl
        · have e : (X ++ X2 ++ op0 pd2).length = X.length + (X2 ++ op0 pd2).length := by simp
          omega
      · exact Or.inr (Or.inr hF)
end TA
