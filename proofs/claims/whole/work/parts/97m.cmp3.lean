/-! ===== pure: a comparison, in step ===== -/
section CO
variable {len : Nat} {T : Nat → Nat}
theorem j_cmp (hl : len ≤ 400) (hT : ∀ i, i < len → T i < 256) {q p0 r v dep B x y : Nat} {ws : List Nat} {cs es : List Ent} {σ1 σm : MS} (tx : TX len T σ1) (tk : TokX 20 T len q σ1) (h3 : sI σ1 20 3 = nI q) (h6 : sI σ1 20 6 = 0) (hq : q ≤ len) (hc : CV σ1 1 dep v ws cs) (hv : v ≤ 60) (tm : TM len T σm) (e30 : sI σm 0 30 = nI p0) (hp0 : p0 ≤ len) (hpq : skB T len p0 = q) (e31 : sI σm 0 31 = 0) (hE : EM σm r es v) (hr : r < 6) (hdep : dep < 900) (hB : B ≤ 170) (hws : ∀ o u', ws = o :: u' → o < 16 ∧ lev o < 4) (hwl : ws.length ≤ 58) (hce : cs.length ≤ es.length + 13) (hb : es.length + x ≤ 2 * v + B) (hy : y ≤ q) :
    ∃ s y' σx' σm', f_X12_compared σm = some σm' ∧ f_X7_readValue σ1 = some s ∧ Rn (y + 1) s y' σx' ∧ FC σ1 σx' ∧ FQ r σm σm' ∧ ((FOut T len q r dep B x y v ws cs es y' σx' σm' ∧ FS σm σm') ∨ Flt2 T len σx' σm') := by
  have hws5 : ∀ o u', ws = o :: u' → o < 16 ∧ lev o < 5 := fun o u' h => ⟨(hws o u' h).1, by have := (hws o u' h).2; omega⟩
  obtain ⟨s, y', σx', σs, d2, d1, drn, d3, d4, d5⟩ := j_sum (B := B) (x := x) (y := y) hl hT tx tk h3 h6 hq hc hv tm e30 hp0 hpq e31 hE hr (by decide) hdep hB hws5 (by omega) hce hb hy
  rcases d5 with ⟨⟨p', v', X, pd, w0, u0, u1, u2, u3, u4, u5, u6, u7, u8, u9, u10, u11, u12⟩, fs⟩ | ⟨f, f1, f2, f3, f4⟩
  · obtain ⟨w1, w2, w3, w4, w5, w6, w7⟩ := w0
    obtain ⟨q1, q2⟩ := skB_le T w3
    have hlp : (X ++ op0 pd).length = X.length + pd.length := by simp [op0]
    rw [m_cmpS hl hT d2 w2 (by omega) w5]
    obtain ⟨σa, a1, a2, a3⟩ := it_cmp (y := y') hl hT w1 w3 w4 w6 u5 (by omega) u12 u6 u4 u8 hws5 (by omega) (by simp; omega) hdep
    rcases a3 with ⟨c1, c2, b3, b4, b5, b6, b7⟩ | ⟨c1, b2⟩
    · rw [if_pos ⟨c1, c2⟩]
      have hcnt := m_count (q := skB T len p') w5 u7.2.2.2.1 u4 w7
      obtain ⟨o1, o2, o3⟩ := cOp_ok c2 (eqF_le T len (skB T len p'))
      rcases b7 with ⟨c6, b8⟩ | ⟨c6, b8⟩
      · rw [if_pos c6] at hcnt
        have tmc : TM len T (wI σs 0 36 (nI (v' + 1))) := w2.fw (FQ.w0 r _ _ (by decide))
        have pc : sI (wI σs 0 36 (nI (v' + 1))) 0 30 = nI (skB T len p') := by rw [sI_r, if_neg (by decide)]; exact w5
        rw [m_c37 hl hT tmc c1 c2 pc hcnt]
        have txa := w1.fc a2
        generalize hfl : eqF T len (skB T len p') = fl at *
        generalize ho : cOp (T (skB T len p')) fl = o at *
        obtain ⟨σ2, i1, i2, i3, i4, i5⟩ := it_value hl hT txa (p := skB T len p' + 1 + fl) b5 b4 b8 b3 (y := y' + 1) (by omega)
        obtain ⟨q3, q4⟩ := skB_le T b5
        have fd : FR (wI σs 0 36 (nI (v' + 1))) (wI (wI (wI σs 0 36 (nI (v' + 1))) 0 30 (nI (skB T len p' + 1))) 0 30 (nI (skB T len p' + 1 + fl))) := (FR.w30 _ _).trans (FR.w30 _ _)
        obtain ⟨s2, y2, σx2, σm2, k2, k1, krn, k3, k4, k5⟩ := j_sum (B := B) (x := x + 3) (y := y' + 1) (part := 2) (ws := o :: ws) (p0 := skB T len p' + 1 + fl) hl hT (txa.fa i2 (by decide) (by decide)) i5 i4 i3 q4 (b6.fa i2) (by omega) (tmc.fr fd) (by rw [sI_r, if_pos rfl]) b5 rfl (by rw [sI_r, if_neg (by decide), sI_r, if_neg (by decide), sI_r, if_neg (by decide)]; exact w7) ((u7.cnt (v' + 1)).fr fd) hr (by decide) hdep hB (fun o' u' hu => by
          have : o = o' := by injection hu
          subst this
          exact ⟨by omega, by omega⟩) (by simp; omega) (by simp [op0] at u11 ⊢; omega) (by rw [List.length_append]; omega) (by omega)
        rw [k2, bnd]
        have rn : Rn (y + 1) s y2 σx2 := drn.trans (a1.trans (Rn.trans (Rn.one (fun n => by rw [i1, k1, bnd])) krn))
        have fc : FC σ1 σx2 := d3.trans (a2.trans (i2.fc.trans k3))
        have fq : FQ r σm σm2 := d4.trans ((FQ.w0 r _ _ (by decide)).trans ((fd.f2 r).trans k4))
        rcases k5 with ⟨⟨p2, v2, X2, pd2, y0, t0, t1, t2, t3, t4, t5, t6, t7, t8, t9, t10, t11, t12⟩, fs2⟩ | ⟨f, f1, f2, f3, f4⟩
        · obtain ⟨y1, y2', y3, y4, y5, y6, y7⟩ := y0
          have hl2 : (X2 ++ op0 pd2).length = X2.length + pd2.length := by simp [op0]
          have hl3 : (es ++ (X ++ op0 pd)).length = es.length + (X ++ op0 pd).length := by simp
          obtain ⟨σ4, g1, g2, g3, g4, g5⟩ := m_entry (e := (o, 0)) (x := nI (trm o)) (y := (0 : Int32)) rfl rfl y7 t7 hr (by rw [List.length_append]; omega)
          rw [g1, bnd]
          have hes : es ++ (X ++ op0 pd) ++ (X2 ++ op0 pd2) ++ [(o, 0)] = es ++ ((X ++ op0 pd ++ X2) ++ op0 (pd2 ++ [o])) := by simp [op0]
          rw [hes] at g2
          have hl4 : (X ++ op0 pd ++ X2 ++ op0 (pd2 ++ [o])).length = (X ++ op0 pd).length + (X2 ++ op0 pd2).length + 1 := by simp [op0]; omega
          refine ⟨s, y2, σx2, σ4, rfl, d1, rn, fc, fq.trans g3, Or.inl ⟨⟨p2, v2, X ++ op0 pd ++ X2, pd2 ++ [o], ⟨y1, y2'.fw g3, y3, y4, by rw [g4 30 (by decide)]; exact y5, y6, by rw [g4 31 (by decide)]; exact y7⟩, by omega, by omega, t2, by omega, t4, t5, ?_, g2, fun o' ho' => ?_, by simp; omega, fun ts hts => ?_, by omega, t12⟩, ?_⟩⟩
          · have e3 : pd2 ++ [o] ++ ws = pd2 ++ (o :: ws) := by simp
            have e4 : cs ++ (X ++ op0 pd ++ X2) = cs ++ X ++ op0 pd ++ X2 := by simp
            rw [e3, e4]; exact t6
          · rcases List.mem_append.mp ho' with h | h
            · exact ⟨by have := (t8 o' h).1; omega, by have := (t8 o' h).2; omega⟩
            · have : o' = o := by simpa using h
              subst this
              exact ⟨by omega, by omega⟩
          · have e2 : (X ++ op0 pd ++ X2) ++ op0 (pd2 ++ [o]) = (X ++ op0 pd) ++ ((X2 ++ op0 pd2) ++ [(o, 0)]) := by simp [op0]
            rw [e2, tys_app, u10 ts (by omega)]
            show tys 50 ((X2 ++ op0 pd2) ++ [(o, 0)]) (false :: ts) = _
            rw [tys_app, t10 (false :: ts) (by simp; omega)]
            exact ty_c o1 o2
          · exact fs.trans (FS.trans (FS.trans ⟨sI_wIn _ _ _ _ (by decide), by rw [sI_r, if_neg (by decide)], by rw [sI_r, if_neg (by decide)]⟩ fd.fs) (fs2.trans ⟨g5, g4 35 (by decide), g4 37 (by decide)⟩))
        · rw [m_entryF f1 f2 f4.2.2, bnd]
          exact ⟨s, y2, σx2, σm2, rfl, d1, rn, fc, fq, Or.inr ⟨f, f1, f2, f3, f4⟩⟩
      · rw [if_neg c6] at hcnt
        have fm : FQ r σs (wI (wI σs 0 31 (nI (1 + 8 * skB T len p' + 3))) 0 36 (nI (v' + 1))) := (FQ.w0 r _ _ (by decide)).trans (FQ.w0 r _ _ (by decide))
        have pc : sI (wI (wI σs 0 31 (nI (1 + 8 * skB T len p' + 3))) 0 36 (nI (v' + 1))) 0 30 = nI (skB T len p') := by rw [sI_r, if_neg (by decide), sI_r, if_neg (by decide)]; exact w5
        rw [m_c37 hl hT (w2.fw fm) c1 c2 pc hcnt]
        have fd : FR (wI (wI σs 0 31 (nI (1 + 8 * skB T len p' + 3))) 0 36 (nI (v' + 1))) (wI (wI (wI (wI σs 0 31 (nI (1 + 8 * skB T len p' + 3))) 0 36 (nI (v' + 1))) 0 30 (nI (skB T len p' + 1))) 0 30 (nI (skB T len p' + 1 + eqF T len (skB T len p')))) := (FR.w30 _ _).trans (FR.w30 _ _)
        have hF : FltM T len (1 + 8 * skB T len p' + 3) (wI (wI (wI (wI σs 0 31 (nI (1 + 8 * skB T len p' + 3))) 0 36 (nI (v' + 1))) 0 30 (nI (skB T len p' + 1))) 0 30 (nI (skB T len p' + 1 + eqF T len (skB T len p')))) := ⟨(w2.fw fm).fr fd, ⟨skB T len p' + 1 + eqF T len (skB T len p'), by omega, by rw [sI_r, if_pos rfl]⟩, by rw [sI_r, if_neg (by decide), sI_r, if_neg (by decide), sI_r, if_neg (by decide), sI_r, if_pos rfl]⟩
        obtain ⟨σ2, z1, z2, z3⟩ := m_sumF (r := r) hl hT (by omega) (by omega) hF (by rw [sI_r, if_neg (by decide), sI_r, if_neg (by decide), sI_r, if_neg (by decide), sI_r, if_neg (by decide)]; exact u7.2.2.2.2)
        rw [z1, bnd, m_entryF (by omega) (by omega) z3.2.2, bnd]
        exact ⟨s, y' + 1, σa, σ2, rfl, d1, drn.trans a1, d3.trans a2, d4.trans (fm.trans ((fd.f2 r).trans z2)), Or.inr ⟨1 + 8 * skB T len p' + 3, by omega, by omega, b8, z3⟩⟩
    · rw [if_neg (show ¬ (skB T len p' < len ∧ (T (skB T len p') = 60 ∨ T (skB T len p') = 61 ∨ T (skB T len p') = 62)) from c1), m_fails (x := (0 : Int32)) (c := 0) rfl rfl w7, bnd]
      exact ⟨s, y' + 1, σa, _, rfl, d1, drn.trans a1, d3.trans a2, d4.trans ((FR.w31 σs _).f2 r), Or.inr ⟨1 + 8 * skB T len p' + 0, by omega, by omega, b2, ⟨w2.fr (FR.w31 σs _), ⟨skB T len p', by omega, by rw [sI_r, if_neg (by decide)]; exact w5⟩, by rw [sI_r, if_pos rfl]⟩⟩⟩
  · obtain ⟨tmf, ⟨pf, hpf, e30f⟩, e31f⟩ := f4
    have hF : FltM T len f σs := ⟨tmf, ⟨pf, hpf, e30f⟩, e31f⟩
    have h38 : sI σs 0 38 = nI 12 := by rw [d4.2.2.1 38 (by omega)]; exact hE.2.2.2.2
    rw [m_cmpS hl hT d2 tmf hpf e30f]
    by_cases c : pf < len ∧ (T pf = 60 ∨ T pf = 61 ∨ T pf = 62)
    · rw [if_pos c]
      obtain ⟨σ2, z1, z2, z3⟩ := m_c37F (r := r) hl hT f1 f2 hF h38 e30f c.1 c.2
      exact ⟨s, y', σx', σ2, z1, d1, drn, d3, d4.trans z2, Or.inr ⟨f, f1, f2, f3, z3⟩⟩
    · rw [if_neg c, m_fails_f e31f f1 (by omega), bnd]
      exact ⟨s, y', σx', _, rfl, d1, drn, d3, d4.trans ((FR.w31 σs _).f2 r), Or.inr ⟨f, f1, f2, f3, ⟨tmf.fr (FR.w31 σs _), ⟨pf, hpf, by rw [sI_r, if_neg (by decide)]; exact e30f⟩, by rw [sI_r, if_pos rfl]⟩⟩⟩
end CO
