/-! ===== pure: a clause, in step ===== -/
section CM2
variable {len : Nat} {T : Nat → Nat}
theorem cod_w17 {σ : MS} {cs : List Ent} (h : Cod σ cs) (k : Nat) (x : Int32) (hk : k ≠ 8) : Cod (wI σ 17 k x) cs := ⟨by rw [sI_wIk _ _ _ _ (Ne.symm hk)]; exact h.1, by rw [sI_wIn _ _ _ _ (by decide)]; exact h.2⟩
/-- the class begins a clause: the fault, or the state behind take -/
theorem x_take (hl : len ≤ 400) (hT : ∀ i, i < len → T i < 256) {p k v : Nat} {cs : List Ent} {σ : MS} (hk : k ≤ 12) (tx : TX len T σ) (hp : p ≤ len) (e1 : sI σ 20 1 = nI p) (h6 : sI σ 20 6 = 0) (hv : sI σ 17 6 = nI v) (hc : Cod σ cs) :
    ∃ σ', f_X7_readTake (nI k) σ = some σ' ∧ FC σ σ' ∧ ((mtN T len (skB T len p) 9 = 1 ∧ k < 12 ∧ sI σ' 20 1 = nI (skB T len p + 4) ∧ skB T len p + 4 ≤ len ∧ sI σ' 20 6 = 0 ∧ sI σ' 17 3 = 0 ∧ CV σ' 0 0 v [] cs) ∨ (mtN T len (skB T len p) 9 = 1 ∧ ¬ k < 12 ∧ sI σ' 20 6 = nI (1 + 8 * skB T len p + 4)) ∨ (¬ mtN T len (skB T len p) 9 = 1 ∧ sI σ' 20 6 = nI (1 + 8 * skB T len p + 0))) := by
  obtain ⟨σ1, a1, a2, a3, a4, a5⟩ := x_adv (a := 20) (by decide) (by decide) hl hT tx hp e1
  obtain ⟨q1, q2⟩ := skB_le T hp
  have txa := tx.fa a2 (by decide) (by decide)
  have z6 : sI σ1 20 6 = 0 := by rw [a3]; exact h6
  have hle := lk_le T len (skB T len p)
  obtain ⟨l1, _⟩ := @lk_is len T (skB T len p)
  have fw : ∀ s : MS, FC s (wI (wI (wI (wI s 17 2 (0 : Int32)) 17 5 (0 : Int32)) 17 3 (0 : Int32)) 17 4 (0 : Int32)) := fun s => (FC.w _ _ _ (by decide)).trans ((FC.w _ _ _ (by decide)).trans ((FC.w _ _ _ (by decide)).trans (FC.w _ _ _ (by decide))))
  have f20 : ∀ s : MS, sI (wI (wI (wI (wI s 17 2 (0 : Int32)) 17 5 (0 : Int32)) 17 3 (0 : Int32)) 17 4 (0 : Int32)) 20 = sI s 20 := fun s => by rw [sI_wIn _ _ _ _ (by decide), sI_wIn _ _ _ _ (by decide), sI_wIn _ _ _ _ (by decide), sI_wIn _ _ _ _ (by decide)]
  unfold f_X7_readTake b_X7_readTake_0 b_X7_readTake_44
  rw [a1, bnd, x_link hl hT txa q2 a5 a4, bnd]
  by_cases c : mtN T len (skB T len p) 9 = 1
  · rw [l1.mpr c, if_pos (show hI 1 = (0 : Int32) from rfl)]
    have hlt : (nI k < (12 : Int32)) ↔ k < 12 := by rw [show (12 : Int32) = nI 12 from rfl, nI_ltI (by omega) (by decide)]
    by_cases ck : k < 12
    · rw [if_pos (hlt.mpr ck)]
      obtain ⟨w1, w2⟩ := tok_wd (k := 9) (by decide) (by rw [chr_5.1]; decide) q2 c a5
      refine ⟨_, rfl, a2.fc.trans (fw σ1), Or.inl ⟨c, ck, by rw [f20]; exact w1, w2, by rw [f20]; exact z6, by rw [sI_wIk _ _ _ _ (by decide), sI_wIs], ?_⟩⟩
      refine ⟨sI_wIs _ _ _ _, by rw [sI_wIk _ _ _ _ (by decide), sI_wIk _ _ _ _ (by decide), sI_wIs]; rfl, by rw [sI_wIk _ _ _ _ (by decide), sI_wIk _ _ _ _ (by decide), sI_wIk _ _ _ _ (by decide), sI_wIk _ _ _ _ (by decide), a2.2 17 (by decide)]; exact hv, ⟨by rw [sI_wIk _ _ _ _ (by decide), sI_wIk _ _ _ _ (by decide), sI_wIk _ _ _ _ (by decide), sI_wIs]; rfl, fun i hi => (by cases hi)⟩, ?_⟩
      have h0 : Cod σ1 cs := ⟨by rw [a2.2 17 (by decide)]; exact hc.1, by rw [a2.2 19 (by decide)]; exact hc.2⟩
      exact cod_w17 (cod_w17 (cod_w17 (cod_w17 h0 _ _ (by decide)) _ _ (by decide)) _ _ (by decide)) _ _ (by decide)
    · rw [if_neg (fun h => ck (hlt.mp h)), x_fail (x := (4 : Int32)) (c := 4) rfl z6 a4, bnd]
      exact ⟨_, rfl, a2.fc.trans ((FC.w _ _ _ (by decide)).trans (fw _)), Or.inr (Or.inl ⟨c, ck, by rw [f20, sI_wIs]⟩)⟩
  · rw [if_neg (show ¬ hI (lk T len (skB T len p)) = (0 : Int32) from fun h => c (l1.mp ((hI_n (q := 0) (by omega) (by decide)).mp h))), x_fail (x := (0 : Int32)) (c := 0) rfl z6 a4, bnd]
    exact ⟨_, rfl, a2.fc.trans ((FC.w _ _ _ (by decide)).trans (fw _)), Or.inr (Or.inr ⟨c, by rw [f20, sI_wIs]⟩)⟩
theorem j_clause (hl : len ≤ 400) (hT : ∀ i, i < len → T i < 256) {r k p v N : Nat} {cs es : List Ent} {σx σm : MS} (hr : r < 6) (hk : k ≤ 12) (hL : LSy 20 T len p σx σm) (hv6 : sI σx 17 6 = nI v) (hC : Cod σx cs) (hE : EM σm r es v) (h35 : sI σm 0 35 = 0) (hv : v ≤ 60) (hN : 3 * N ≤ p) (hb : es.length ≤ 2 * v + N) (hce : cs.length ≤ es.length + k) :
    ∃ σx' σm', (f_X7_readTake (nI k) σx).bind f_X7_readClause = some σx' ∧ f_X12_ruleClause (nI k) σm = some σm' ∧ FC σx σx' ∧ FK r k σm σm' ∧ (COk T len r k cs es σx' σm' ∨ Flt2 T len σx' σm' ∨ Fl0 T len σx' σm') := by
  obtain ⟨tx, tm, hp, e1, e30, h6, e31⟩ := hL
  obtain ⟨σ2, a1, a2, a3⟩ := x_take hl hT hk tx hp e1 h6 hv6 hC
  obtain ⟨q1, q2⟩ := skB_le T hp
  obtain ⟨σb, b1, b2, b3, b4⟩ := m_blanks hl hT (p := p) (by omega) tm e30
  have hskq : skB T len (skB T len p) = skB T len p := skB_skB T hp
  generalize hq : skB T len p = q at *
  have tmb := tm.fr b2
  have z31 : sI σb 0 31 = 0 := by rw [b3]; exact e31
  have hEb := hE.fr b2
  have hst := m_stood (k := 9) hl hT (by decide) tmb (by omega) b4
  have h01 := mtN_01 T len q 9
  rw [a1, bnd]
  have hcl : ∀ {σ s : MS} {y' : Nat}, Rn 0 σ y' s → (sI s 17 3 = 4 ∨ ¬ sI s 20 6 = 0) → f_X7_readClause σ = some s := fun h hs => by
    unfold f_X7_readClause b_X7_readClause_0
    exact h.fin (by decide) hs
  have fne : ∀ {f : Nat} {s : MS}, f ≠ 0 → f ≤ 4000 → sI s 20 6 = nI f → ¬ sI s 20 6 = 0 := fun h1 h2 h => by rw [h, n_zero (by omega)]; exact h1
  unfold f_X12_ruleClause b_X12_ruleClause_0
  rw [b1, bnd, hst, bnd, b4]
  rcases a3 with ⟨c, ck, t1, t2, t3, t4, t5⟩ | ⟨c, ck, t1⟩ | ⟨c, t1⟩
  · -- a clause
    rw [c, if_neg (show ¬ nI 1 = 0 by decide), if_neg (by rw [show (12 : Int32) = nI 12 from rfl, nI_eq (by omega) (by decide)]; omega), nl_add]
    have hE1 : EM (wI σb 0 30 (nI (q + 4))) r es v := hEb.w30 _
    have eix : (12 : Int32) * sI (wI σb 0 30 (nI (q + 4))) 0 32 + nI k = nI (12 * r + k) := by rw [hE1.1, ln_mul, nI_add]
    rw [eix, chk_t (in_n (by omega) (by decide)), ix_n (by omega), hE1.2.1]
    obtain ⟨σ3, i1, i2, i3, i4, i5⟩ := it_value (y := 0) hl hT (tx.fc a2) t2 t1 t3 t4 (by decide)
    have tmc : TM len T (wI (wI σb 0 30 (nI (q + 4))) 32 (12 * r + k) (nI es.length)) := (tmb.fr (FR.w30 _ _)).w3 _ (by decide)
    have c0 : sI (wI (wI σb 0 30 (nI (q + 4))) 32 (12 * r + k) (nI es.length)) 0 = sI (wI σb 0 30 (nI (q + 4))) 0 := sI_wIn _ _ _ _ (by decide)
    have fkc : FK r k σm (wI (wI σb 0 30 (nI (q + 4))) 32 (12 * r + k) (nI es.length)) := ((b2.trans (FR.w30 _ _)).f2 r |>.fk k).trans (FK.w r k _ _ (by decide))
    have hEc : EM (wI (wI σb 0 30 (nI (q + 4))) 32 (12 * r + k) (nI es.length)) r es v := hE1.w3 _ (by decide)
    have c32 : sI (wI (wI σb 0 30 (nI (q + 4))) 32 (12 * r + k) (nI es.length)) 32 (12 * r + k) = nI es.length := sI_wIs _ _ _ _
    have c30 : sI (wI (wI σb 0 30 (nI (q + 4))) 32 (12 * r + k) (nI es.length)) 0 30 = nI (q + 4) := by rw [c0, sI_wIs]
    have c31 : sI (wI (wI σb 0 30 (nI (q + 4))) 32 (12 * r + k) (nI es.length)) 0 31 = 0 := by rw [c0, sI_wIk _ _ _ _ (by decide)]; exact z31
    have c35 : sI (wI (wI σb 0 30 (nI (q + 4))) 32 (12 * r + k) (nI es.length)) 0 35 = 0 := by rw [c0, sI_wIk _ _ _ _ (by decide), b2.2.2 35 (by decide) (by decide)]; exact h35
    generalize wI (wI σb 0 30 (nI (q + 4))) 32 (12 * r + k) (nI es.length) = σc at *
    obtain ⟨g1, g2⟩ := skB_le T t2
    obtain ⟨s, y', σx1, σm1, d1, d2, drn, d3, d4, d5⟩ := j_sum (B := N) (x := 0) (y := 0) (ws := []) (p0 := q + 4) hl hT ((tx.fc a2).fa i2 (by decide) (by decide)) i5 i4 i3 g2 (t5.fa i2) hv tmc c30 t2 rfl c31 hEc hr (by decide) (by decide) (by omega) (fun o u' h => by cases h) (by decide) (by omega) (by omega) (by omega)
    have rn1 : Rn 0 σ2 y' σx1 := (Rn.one (fun n => by rw [i1, d2, bnd])).trans drn
    have fc1 : FC σx σx1 := a2.trans (i2.fc.trans d3)
    unfold b_X12_ruleClause_69
    rw [d1, bnd, chk_t (in_n (by omega) (by decide)), ix_n (by omega)]
    have fk1 : FK r k σm σm1 := fkc.trans (d4.fk k)
    have h32 : sI σm1 32 (12 * r + k) = nI es.length := by rw [d4.2.1 32 (by decide) (by decide) (by decide) (by decide)]; exact c32
    have h104 : ∀ s : MS, b_X12_ruleClause_104 (nI (12 * r + k)) s = some (wI s 34 (12 * r + k) (sI s 0 34)) := fun s => by
      unfold b_X12_ruleClause_104
      rw [chk_t (in_n (by omega) (by decide)), ix_n (by omega)]
    have w0 : sI (wI σm1 33 (12 * r + k) (sI σm1 0 34)) 0 = sI σm1 0 := sI_wIn _ _ _ _ (by decide)
    rcases d5 with ⟨⟨p', v', X, pd, w00, u0, u1, u2, u3, u4, u5, u6, u7, u8, u9, u10, u11, u12⟩, fs⟩ | ⟨f, f1, f2, f3, f4⟩
    · obtain ⟨w1, w2, w3, w4, w5, w6, w7⟩ := w00
      obtain ⟨o1, o2⟩ := skB_le T w3
      have hsk' : skB T len (skB T len p') = skB T len p' := skB_skB T w3
      rw [w0, if_pos w7]
      have hA : tys 50 (X ++ op0 pd) [] = some [false] := u10 [] (by decide)
      have hlA : (X ++ op0 pd).length = X.length + pd.length := by simp [op0]
      have hApp : cs ++ X ++ op0 pd = cs ++ (X ++ op0 pd) := by simp
      have u6' : CV σx1 0 0 v' pd (cs ++ X) := by rw [List.append_nil] at u6; exact u6
      obtain ⟨σx2, j1, j2, j3⟩ := it_taken (y := y') hl hT w1 w3 w4 w6 u5 (by omega) u12 u6' u8 (by omega) (by simp; omega)
      rw [hApp] at j3
      generalize hq' : skB T len p' = q' at *
      generalize X ++ op0 pd = A at *
      have e34 : sI σm1 0 34 = nI (es.length + A.length) := by rw [u7.2.1, List.length_append]
      rw [e34]
      rw [e34] at w0
      have tm33 : TM len T (wI σm1 33 (12 * r + k) (nI (es.length + A.length))) := w2.w3 _ (by decide)
      have hE33 : EM (wI σm1 33 (12 * r + k) (nI (es.length + A.length))) r (es ++ A) v' := u7.w3 _ (by decide)
      have fk33 : FK r k σm (wI σm1 33 (12 * r + k) (nI (es.length + A.length))) := fk1.trans (FK.w r k _ _ (by decide))
      have r33 : sI (wI σm1 33 (12 * r + k) (nI (es.length + A.length))) 33 (12 * r + k) = nI (es.length + A.length) := sI_wIs _ _ _ _
      have r32 : sI (wI σm1 33 (12 * r + k) (nI (es.length + A.length))) 32 (12 * r + k) = nI es.length := by rw [sI_wIn _ _ _ _ (by decide)]; exact h32
      have r30 : sI (wI σm1 33 (12 * r + k) (nI (es.length + A.length))) 0 30 = nI q' := by rw [w0]; exact w5
      have r31 : sI (wI σm1 33 (12 * r + k) (nI (es.length + A.length))) 0 31 = 0 := by rw [w0]; exact w7
      have r35 : sI (wI σm1 33 (12 * r + k) (nI (es.length + A.length))) 0 35 = 0 := by rw [w0, fs.2.1]; exact c35
      generalize wI σm1 33 (12 * r + k) (nI (es.length + A.length)) = σ33 at *
      obtain ⟨σt, k1, k2, k3, k4⟩ := m_takeN hl hT tm33 o2 r30 hsk'
      rw [k1, bnd]
      have hEt := hE33.fr k2
      have tmt := tm33.fr k2
      have t32 : sI σt 32 (12 * r + k) = nI es.length := by rw [k2.2.1 32 (by decide)]; exact r32
      have t33 : sI σt 33 (12 * r + k) = nI (es.length + A.length) := by rw [k2.2.1 33 (by decide)]; exact r33
      have fkt : FK r k σm σt := fk33.trans ((k2.f2 r).fk k)
      have t35 : sI σt 0 35 = 0 := by rw [k2.2.2 35 (by decide) (by decide)]; exact r35
      have t31 : sI σt 0 31 = 0 := by rw [k3]; exact r31
      have h01' := mtN_01 T len q' 19
      rcases j3 with ⟨v1, v2, v3, v4, v5⟩ | ⟨v1, v2, v3, v4, v5, v6⟩ | ⟨v1, v2, v3⟩
      · -- no test
        have cz : mtN T len q' 19 = 0 := by
          rcases Nat.eq_zero_or_pos (mtN T len q' 19) with h | h
          · exact h
          · have := mt_if o2 (show mtN T len q' 19 = 1 by omega)
            omega
        rw [cz, if_neg (by decide)] at k4
        show ∃ σx' σm', _ ∧ (if nI (mtN T len q' 19) = 0 then _ else _) = _ ∧ _
        rw [cz, if_pos (show nI 0 = 0 from rfl), h104]
        refine ⟨σx2, _, hcl (rn1.trans j1) (Or.inl v2), rfl, fc1.trans j2, fkt.trans (FK.w r k _ _ (by decide)), Or.inl ⟨q', v', N, A, [], w1.fc j2, tmt.w3 _ (by decide), o2, by rw [sI_wIn _ _ _ _ (by decide)]; exact k4, hsk', by rw [sI_wIn _ _ _ _ (by decide)]; exact t31, v4, v3, v1, by omega, u4, ck, v5.2.2.1, ?_, ?_, by rw [sI_wIn _ _ _ _ (by decide)]; exact t35, hA, Or.inl rfl, ?_, by rw [sI_wIn _ _ _ _ (by decide)]; exact t32, by rw [sI_wIn _ _ _ _ (by decide)]; exact t33, ?_⟩⟩
        · have e : cs ++ cod1 (A, []) = cs ++ A ++ [(16, 0)] := by simp [cod1]
          rw [e]; exact v5.2.2.2.2
        · rw [List.append_nil]; exact hEt.w3 _ (by decide)
        · rw [List.append_nil]; omega
        · rw [sI_wIs, hEt.2.1, List.length_append]; rfl
      · -- a test
        show ∃ σx' σm', _ ∧ (if nI (mtN T len q' 19) = 0 then _ else _) = _ ∧ _
        rw [v2, if_pos rfl] at k4
        rw [v2, if_neg (show ¬ nI 1 = 0 by decide)]
        obtain ⟨z1, z2⟩ := tok_wd (k := 19) (by decide) (by rw [chr_5.2.1]; decide) o2 v2 v4
        have z1' : sI σx2 20 1 = nI (q' + 2) := z1
        have z2' : q' + 2 ≤ len := z2
        have hK0 : TK (wI σt 0 37 (0 : Int32)) (dW []) [] := ⟨by rw [sI_wIk _ _ _ _ (by decide)]; exact t35, by rw [sI_wIs]; rfl, fun i hi => by cases hi⟩
        have hE0 : EM (wI σt 0 37 (0 : Int32)) r (es ++ A) v' := by
          obtain ⟨x1, x2, x3, x4, x5⟩ := hEt
          exact ⟨by rw [sI_wIk _ _ _ _ (by decide)]; exact x1, by rw [sI_wIk _ _ _ _ (by decide)]; exact x2, fun i hi => by rw [sI_wIn _ _ _ _ (by decide), sI_wIn _ _ _ _ (by decide)]; exact x3 i hi, by rw [sI_wIk _ _ _ _ (by decide)]; exact x4, by rw [sI_wIk _ _ _ _ (by decide)]; exact x5⟩
        have hWant : TWant T len r (q' + 2) (y' + 1) (cs ++ A) (es ++ A) σx2 (wI σt 0 37 (0 : Int32)) := by
          refine ⟨q' + 2, N, v', 0, [], [], ⟨w1.fc j2, tmt.fw (FQ.w0 r _ _ (by decide)), z2', z1', z2', by rw [sI_wIk _ _ _ _ (by decide)]; exact k4, rfl, v5, by rw [sI_wIk _ _ _ _ (by decide)]; exact t31⟩, ⟨by omega, by omega, u4, by show 3 * 0 + 3 * 0 ≤ v'; omega, trivial, by decide⟩, ⟨?_, ?_, hK0, fun o ho => (by cases ho), by decide, rfl, ?_⟩, v3⟩
          · rw [List.append_nil, List.append_nil]; exact v6
          · have e : es ++ A ++ ([] ++ op0 []) = es ++ A := by simp [op0]
            rw [e]; exact hE0
          · show (es ++ A).length + 0 + 0 + 0 ≤ _
            rw [List.length_append]; omega
        obtain ⟨y3, σx3, σm3, x1, x2, x3, x4, x5⟩ := j_test hl hT hr (by simp; omega) 500 FU (q' + 2) (y' + 1) 1 σx2 (wI σt 0 37 (0 : Int32)) (by omega) (by unfold FU; omega) (Or.inl ⟨rfl, hWant⟩)
        have ht : f_X12_test σt = some σm3 := x1
        rw [ht, bnd, h104]
        have rn3 : Rn 0 σ2 y3 σx3 := rn1.trans (j1.trans x2)
        have fc3 : FC σx σx3 := fc1.trans (j2.trans x3)
        have fq3 : FQ r σt σm3 := (FQ.w0 r _ _ (by decide)).trans x4
        have fk3 : FK r k σm (wI σm3 34 (12 * r + k) (sI σm3 0 34)) := fkt.trans ((fq3.fk k).trans (FK.w r k _ _ (by decide)))
        rcases x5 with ⟨q3, v3', N3, X3, part3, m1, m2, m3, m4, m5, m6, m7, m8, m9, m10, m11, m12, m13, m14, m15, m16, m17⟩ | ⟨f, f1, f2, f3, f4⟩ | hF
        · have hX3 : X3 ≠ [] := fun h => by subst h; cases m16
          refine ⟨σx3, _, hcl rn3 (Or.inl m10), rfl, fc3, fk3, Or.inl ⟨q3, v3', N3, A, X3, m1, m2.w3 _ (by decide), m3, by rw [sI_wIn _ _ _ _ (by decide)]; exact m4, m5, by rw [sI_wIn _ _ _ _ (by decide)]; exact m6, m7, m8, m9, m11, m12, ck, m13.2.2.1, ?_, ?_, by rw [sI_wIn _ _ _ _ (by decide)]; exact m15.1, hA, Or.inr m16, ?_, ?_, ?_, ?_⟩⟩
          · have e : cs ++ cod1 (A, X3) = cs ++ A ++ X3 ++ [(17, 0)] := by simp [cod1, hX3]
            rw [e]; exact m13.2.2.2.2
          · rw [← List.append_assoc]; exact m14.w3 _ (by decide)
          · rw [List.length_append] at m17 ⊢; omega
          · rw [sI_wIn _ _ _ _ (by decide), fq3.2.1 32 (by decide) (by decide) (by decide) (by decide)]; exact t32
          · rw [sI_wIn _ _ _ _ (by decide), fq3.2.1 33 (by decide) (by decide) (by decide) (by decide)]; exact t33
          · rw [sI_wIs, m14.2.1, List.length_append, List.length_append]
        · exact ⟨σx3, _, hcl rn3 (Or.inr (fne f1 f2 f3)), rfl, fc3, fk3, Or.inr (Or.inl ⟨f, f1, f2, f3, f4.w3 _ (by decide)⟩)⟩
        · obtain ⟨q3, y1, y2, y3', y4, y5, y6, y7⟩ := hF
          exact ⟨σx3, _, hcl rn3 (Or.inr (fne (f := 1 + 8 * q3 + 0) (by omega) (by omega) y4)), rfl, fc3, fk3, Or.inr (Or.inr (Fl0.w3 ⟨q3, y1, y2, y3', y4, y5, y6, y7⟩ _ (by decide)))⟩
      · -- neither
        have cz : mtN T len q' 19 = 0 := by omega
        rw [cz, if_neg (by decide)] at k4
        show ∃ σx' σm', _ ∧ (if nI (mtN T len q' 19) = 0 then _ else _) = _ ∧ _
        rw [cz, if_pos (show nI 0 = 0 from rfl), h104]
        have hlt : q' < len := by
          rcases Nat.lt_or_ge q' len with h | h
          · exact h
          · exact absurd (Or.inl (by omega)) v1
        exact ⟨σx2, _, hcl (rn1.trans j1) (Or.inr (fne (f := 1 + 8 * q' + 0) (by omega) (by omega) v3)), rfl, fc1.trans j2, fkt.trans (FK.w r k _ _ (by decide)), Or.inr (Or.inr ⟨q', hlt, fun h => v1 (Or.inr ⟨hlt, h⟩), hsk', v3, tmt.w3 _ (by decide), by rw [sI_wIn _ _ _ _ (by decide)]; exact k4, by rw [sI_wIn _ _ _ _ (by decide)]; exact t31⟩)⟩
    · -- a fault in the sum
      rw [w0, if_neg (show ¬ sI σm1 0 31 = 0 by rw [f4.2.2, n_zero (by omega)]; exact f1), h104]
      exact ⟨σx1, _, hcl rn1 (Or.inr (fne f1 f2 f3)), rfl, fc1, (fk1.trans (FK.w r k _ _ (by decide))).trans (FK.w r k _ _ (by decide)), Or.inr (Or.inl ⟨f, f1, f2, f3, (f4.w3 _ (by decide)).w3 _ (by decide)⟩)⟩
  · rw [c, if_neg (show ¬ nI 1 = 0 by decide), if_pos (by rw [show k = 12 by omega]; rfl), m_fails (x := (4 : Int32)) (c := 4) (q := q) rfl rfl z31, bnd]
    exact ⟨σ2, _, hcl (Rn.refl 0 σ2) (Or.inr (fne (f := 1 + 8 * q + 4) (by omega) (by omega) t1)), rfl, a2, ((b2.trans (FR.w31 _ _)).f2 r).fk k, Or.inr (Or.inl ⟨1 + 8 * q + 4, by omega, by omega, t1, ⟨tmb.fr (FR.w31 _ _), ⟨q, by omega, by rw [sI_wIk _ _ _ _ (by decide)]; exact b4⟩, sI_wIs _ _ _ _⟩⟩)⟩
  · rw [show mtN T len q 9 = 0 by omega, if_pos (show nI 0 = 0 from rfl), m_fails (x := (0 : Int32)) (c := 0) (q := q) rfl rfl z31, bnd]
    exact ⟨σ2, _, hcl (Rn.refl 0 σ2) (Or.inr (fne (f := 1 + 8 * q + 0) (by omega) (by omega) t1)), rfl, a2, ((b2.trans (FR.w31 _ _)).f2 r).fk k, Or.inr (Or.inl ⟨1 + 8 * q + 0, by omega, by omega, t1, ⟨tmb.fr (FR.w31 _ _), ⟨q, by omega, by rw [sI_wIk _ _ _ _ (by decide)]; exact b4⟩, sI_wIs _ _ _ _⟩⟩)⟩
end CM2
