/-! ===== pure: a test, a step behind a fact ===== -/
section TB
variable {len : Nat} {T : Nat → Nat}
def TDone (T : Nat → Nat) (len r : Nat) (c0 e0 : List Ent) (σx σm : MS) : Prop := ∃ q v N X part, TX len T σx ∧ TM len T σm ∧ q ≤ len ∧ sI σm 0 30 = nI q ∧ skB T len q = q ∧ sI σm 0 31 = 0 ∧ sI σx 20 6 = 0 ∧ TokX 20 T len q σx ∧ (q = len ∨ (q < len ∧ T q = 59)) ∧ sI σx 17 3 = 4 ∧ 3 * N ≤ q ∧ v ≤ 60 ∧ CV σx part 0 v [] (c0 ++ X ++ [(17, 0)]) ∧ EM σm r (e0 ++ X) v ∧ TK σm 0 [] ∧ tys 50 X [] = some [true] ∧ e0.length + X.length ≤ 2 * v + N
/-- the class has told its fault at q, the reference will -/
def Fl0 (T : Nat → Nat) (len : Nat) (σx σm : MS) : Prop := ∃ q, q < len ∧ T q ≠ 59 ∧ skB T len q = q ∧ sI σx 20 6 = nI (1 + 8 * q + 0) ∧ TM len T σm ∧ sI σm 0 30 = nI q ∧ sI σm 0 31 = 0
theorem st_B (hl : len ≤ 400) (hT : ∀ i, i < len → T i < 256) {r p y : Nat} {c0 e0 : List Ent} {σx σm : MS} (hr : r < 6) (hc0 : c0.length ≤ e0.length + 12) (h : THas T len r p y c0 e0 σx σm) :
    ∃ z1 z2 y' σx' σm', (∀ n, b_X12_test_9 (n + 1) 0 1 σm = b_X12_test_9 n z1 z2 σm') ∧ Rn y σx y' σx' ∧ FC σx σx' ∧ FQ r σm σm' ∧ ((z1 = 1 ∧ z2 = 1 ∧ ∃ p', p < p' ∧ TWant T len r p' y' c0 e0 σx' σm') ∨ (z1 = 0 ∧ z2 = 1 ∧ ∃ p', p < p' ∧ THas T len r p' y' c0 e0 σx' σm') ∨ Flt2 T len σx' σm' ∨ (z2 = 0 ∧ (TDone T len r c0 e0 σx' σm' ∨ Fl0 T len σx' σm'))) := by
  obtain ⟨p0, N, v, part, X, pd, W, ⟨tx, tm, hp, e1, hp0, e30, hsk, h6, e31⟩, ⟨n1, n2, n3, n4, n5, n6⟩, ⟨hC, hE, hK, hpd, hpl, hty, hb⟩, h3⟩ := h
  obtain ⟨q1, q2⟩ := skB_le T hp
  have hWm := okS.mem (by decide) n5
  have hWl := cnt4 W hWm
  have hAw : nLk W ≤ nAw W := by unfold nAw; omega
  have hlX : (X ++ op0 pd).length = X.length + pd.length := by simp [op0]
  have hle : (e0 ++ (X ++ op0 pd)).length = e0.length + X.length + pd.length := by rw [List.length_append, hlX]; omega
  obtain ⟨σ1, a1, a2, a3, a4, a5, a6, a7, a8⟩ := it_done (y := y) hl hT tx hp e1 h6 (by omega) hC h3
  obtain ⟨t, u, σa, σb, σr, eW, ht, hu, b1, b2, b3, b4, b5, b6, b7, b8, b9, b10⟩ := m_t2 hl hT hr n5 (by omega) (by omega) tm e30 hp0 hsk e31 hE hK
  have hskq : skB T len (skB T len p) = skB T len p := skB_skB T hp
  generalize hq : skB T len p = q at *
  have ht14 : ∀ o, o ∈ t → 12 ≤ o ∧ o ≤ 14 := fun o ho => ⟨(ht o ho).1, by have := (ht o ho).2; omega⟩
  obtain ⟨m1, m2⟩ := noB ht14
  have hdW : dW W = dW t + dW u := by rw [eW, dW_app]
  have hnW : nLk W = nLk t + nLk u := by rw [eW, nLk_app]
  have haW : nAw W = nAw t + nAw u := by rw [eW, nAw_app]
  have hwl : W.length = t.length + u.length := by rw [eW]; simp
  have hst1 := m_stood (k := 21) hl hT (by decide) b3 (by omega) b4
  have hst2 := m_stood (k := 22) hl hT (by decide) b3 (by omega) b4
  have hnp : nts pd = 0 := nts_lo (fun o ho => (hpd o ho).1)
  have hrun : ∀ n, b_X12_test_9 (n + 1) 0 1 σm = (if nI (mtN T len q 21) = 0 then (if nI (mtN T len q 22) = 0 then (f_X12_answers (11 : Int32) σr).bind (fun r39 => (f_X12_top r39).bind (fun r40 => (if r40 = (12 : Int32) then (f_X12_sign r39).bind (fun r42 => (if r42 = (93 : Int32) then (b_X12_test_164 (b_X12_test_9 n) 0 1 r39) else (f_X12_fails (0 : Int32) (sI r39 0 30) r39).bind (fun r44 => (b_X12_test_164 (b_X12_test_9 n) 0 1 r44)))) else (b_X12_test_199 (b_X12_test_9 n) 0 ((0 : Int32)) r39)))) else (b_X12_test_82 (b_X12_test_9 n) 1 (nI (mtN T len q 21)) (nI (mtN T len q 22)) σr)) else (b_X12_test_82 (b_X12_test_9 n) 1 (nI (mtN T len q 21)) (nI (mtN T len q 22)) σr)) := fun n => by
    show (if (1 : Int32) = 0 then _ else (if (sI σm 0 31) = 0 then (if (0 : Int32) = 0 then _ else _) else _)) = _
    rw [if_neg (show ¬ (1 : Int32) = 0 by decide), if_pos e31, if_pos rfl, b1, bnd, b2, bnd, hst1, bnd, hst2, bnd, b5, bnd]
  have h21 := mtN_01 T len q 21
  have h22 := mtN_01 T len q 22
  obtain ⟨l1, l2, l3, l4, l5⟩ := @lk_is len T q
  have fcx : FC σx σ1 := a2
  -- a link
  have link : ∀ (k s : Nat) (t2 u2 : List Nat) (σo : MS), (k = 13 ∨ k = 14) → lk T len q = k - 10 → W = t2 ++ u2 → (∀ o, o ∈ t2 → 12 ≤ o ∧ o ≤ k) → (∀ o u', u2 = o :: u' → k < o ∧ o ≤ 15) → okS k u2 → sI σ1 20 1 = nI (q + s) → q + s ≤ len → 1 ≤ s → EM σo r (e0 ++ (X ++ op0 pd) ++ op0 t2) v → TK σo (dW u2) u2 → FQ r σm σo → sI σo 0 30 = nI q → sI σo 0 31 = 0 →
      (∀ n, b_X12_test_9 (n + 1) 0 1 σm = (f_X12_opens (nI (k - 3)) σo).bind (fun r24 => b_X12_test_9 n 1 1 (wI r24 0 30 (sI r24 0 30 + nI s)))) →
      ∃ z1 z2 y' σx' σm', (∀ n, b_X12_test_9 (n + 1) 0 1 σm = b_X12_test_9 n z1 z2 σm') ∧ Rn y σx y' σx' ∧ FC σx σx' ∧ FQ r σm σm' ∧ ((z1 = 1 ∧ z2 = 1 ∧ ∃ p', p < p' ∧ TWant T len r p' y' c0 e0 σx' σm') ∨ (z1 = 0 ∧ z2 = 1 ∧ ∃ p', p < p' ∧ THas T len r p' y' c0 e0 σx' σm') ∨ Flt2 T len σx' σm' ∨ (z2 = 0 ∧ (TDone T len r c0 e0 σx' σm' ∨ Fl0 T len σx' σm'))) := by
    intro k s t2 u2 σo hk hlk e2 hx2 hu2 ok2 g1 g2 g3 hEo hKo fqo po fo hro
    have hx14 : ∀ o, o ∈ t2 → 12 ≤ o ∧ o ≤ 14 := fun o ho => ⟨(hx2 o ho).1, by have := (hx2 o ho).2; omega⟩
    obtain ⟨i1, i2⟩ := noB hx14
    have d2 : dW W = dW t2 + dW u2 := by rw [e2, dW_app]
    have d3 : nLk W = nLk t2 + nLk u2 := by rw [e2, nLk_app]
    have d4 : nAw W = nAw t2 + nAw u2 := by rw [e2, nAw_app]
    have d5 : W.length = t2.length + u2.length := by rw [e2]; simp
    have hnt : nts (pd ++ t2) = dW t2 := by rw [nts_app, hnp, i1]; omega
    have hC1 : CV σ1 part (dW u2 + nts (pd ++ t2)) v ((pd ++ t2) ++ u2) (c0 ++ X) := by
      rw [hnt, List.append_assoc, ← e2, show dW u2 + dW t2 = dW W by omega]; exact a8
    obtain ⟨σ2, x1, x2, x3, x4, x5⟩ := x_goLink hl hT a3 q2 a6 a5 hk hlk hC1 (fun o ho => by
      rcases List.mem_append.mp ho with h | h
      · refine ⟨by have := (hpd o h).1; omega, ?_⟩
        have := (hpd o h).2
        rcases hk with h | h <;> subst h
        · show 2 ≤ lev o; omega
        · show 1 ≤ lev o; omega
      · have h12 := hx2 o h
        rcases hk with h | h <;> subst h
        · rcases (by omega : o = 12 ∨ o = 13) with e | e <;> subst e <;> decide
        · rcases (by omega : o = 12 ∨ o = 13 ∨ o = 14) with e | e | e <;> subst e <;> decide) (fun o u' h => by
      have := hu2 o u' h
      rcases hk with h | h <;> subst h
      · rcases (by omega : o = 14 ∨ o = 15) with e | e <;> subst e <;> decide
      · rcases (by omega : o = 15) with e; subst e; decide) (by simp; omega) (by simp; omega) (by rw [hnt]; omega)
    obtain ⟨σp, o1, o2, o3, o4, o5⟩ := m_openL (k := k) hk hKo hEo (by omega)
    have p30 : sI σp 0 30 = nI q := by rw [o5 30 (by decide)]; exact po
    have hdk : dW (k :: u2) = dW u2 := by rcases hk with h | h <;> subst h <;> unfold dW <;> simp
    have hnk : nLk (k :: u2) = nLk u2 + 1 := by rcases hk with h | h <;> subst h <;> unfold nLk <;> simp <;> omega
    have hak : nAw (k :: u2) = nAw u2 + 1 := by
      unfold nAw; rw [hnk]
      rcases hk with h | h <;> subst h <;> simp <;> omega
    refine ⟨1, 1, y + 1, σ2, wI σp 0 30 (nI (q + s)), fun n => ?_, Rn.one (fun n => by rw [a1, x1, bnd]), fcx.trans x2, fqo.trans (o4.trans (FQ.w0 r _ _ (by decide))), Or.inl ⟨rfl, rfl, q + s, by omega, q + s, N, v, part, X ++ op0 pd ++ op0 t2, k :: u2, ⟨a3.fc x2, ((tm.fw fqo).fw o4).fr (FR.w30 _ _), g2, by rw [x4]; exact g1, g2, by rw [sI_r, if_pos rfl], rfl, by rw [x4]; exact a4, by rw [sI_r, if_neg (by decide), o5 31 (by decide)]; exact fo⟩, ⟨by omega, by omega, n3, by omega, ?_, by omega⟩, ⟨?_, ?_, ?_, fun o ho => (by cases ho), by decide, ?_, ?_⟩, x3⟩⟩
    · rw [hro, o1, bnd, p30, nI_add]
    · exact Or.inr ⟨by omega, by omega, ok2⟩
    · rw [hdk]
      have e : c0 ++ (X ++ op0 pd ++ op0 t2) = c0 ++ X ++ op0 (pd ++ t2) := by simp [op0]
      rw [e]; exact x5
    · have e : e0 ++ (X ++ op0 pd ++ op0 t2 ++ op0 []) = e0 ++ (X ++ op0 pd) ++ op0 t2 := by simp [op0]
      rw [e]; exact o3.w30 _
    · rw [hdk]; exact o2.fr (FR.w30 _ _)
    · have e : X ++ op0 pd ++ op0 t2 ++ op0 [] = X ++ op0 pd ++ op0 t2 := by simp [op0]
      rw [e, tys_app, hty]
      show tys 50 (op0 t2) _ = _
      rw [d3, ty_t t2 (nLk u2) hx14, hnk]
    · have e : (X ++ op0 pd ++ op0 t2 ++ op0 []).length = (X ++ op0 pd).length + t2.length := by simp [op0]; omega
      omega
  by_cases c3 : mtN T len q 21 = 1
  · have c3' := l3.mpr c3
    have c4 : mtN T len q 22 = 0 := by
      rcases Nat.eq_zero_or_pos (mtN T len q 22) with h | h
      · exact h
      · have := l4.mpr (by omega); omega
    obtain ⟨w1, w2⟩ := tok_wd (k := 21) (by decide) (by rw [chr_5.2.2.1]; decide) q2 c3 a6
    refine link 13 3 t u σr (Or.inl rfl) c3' eW ht (fun o u' h => by
      subst h
      have hm := okS.mem (k := 14) (by decide) hu o (by simp)
      rcases hu with ⟨h1, _⟩ | ⟨h1, _⟩ <;> omega) (hu.mono (by decide)) w1 w2 (by decide) b6 b7 b8 b9 b10 (fun n => ?_)
    rw [hrun, c3, c4, if_neg (show ¬ nI 1 = 0 by decide)]
    unfold b_X12_test_82
    rw [if_pos (show nI 0 = 0 from rfl)]
    unfold b_X12_test_93
    rw [if_neg (show ¬ nI 1 = 0 by decide)]
    unfold b_X12_test_105
    refine congrArg _ (funext fun r24 => ?_)
    rw [if_neg (show ¬ nI 1 = 0 by decide)]; rfl
  · have c3z : mtN T len q 21 = 0 := by omega
    have hln : (e0 ++ (X ++ op0 pd) ++ op0 t).length = e0.length + X.length + pd.length + t.length := by rw [List.length_append, hle]; simp [op0]
    obtain ⟨j, u3, σ3, e3, ok3, d1, d2, d3, d4, d5, d6⟩ := m_an1 (k := 14) (x := (11 : Int32)) (by decide) hr rfl hu (by omega) (by omega) b10 b6 b7
    have eW3 : W = (t ++ List.replicate j 14) ++ u3 := by rw [eW, e3]; simp
    have ht3 : ∀ o, o ∈ t ++ List.replicate j 14 → 12 ≤ o ∧ o ≤ 14 := fun o ho => by
      rcases List.mem_append.mp ho with h | h
      · exact ht14 o h
      · have := (List.mem_replicate.mp h).2; omega
    have hE3 : EM σ3 r (e0 ++ (X ++ op0 pd) ++ op0 (t ++ List.replicate j 14)) v := by
      have e : e0 ++ (X ++ op0 pd) ++ op0 (t ++ List.replicate j 14) = e0 ++ (X ++ op0 pd) ++ op0 t ++ op0 (List.replicate j 14) := by simp [op0]
      rw [e]; exact d2
    generalize ht3e : t ++ List.replicate j 14 = t3 at *
    have hfq3 : FQ r σm σ3 := b8.trans d4
    have p3 : sI σ3 0 30 = nI q := by rw [d5]; exact b9
    have hu3 : ∀ o u', u3 = o :: u' → o = 15 := fun o u' h => by
      subst h
      rcases ok3 with ⟨h1, _⟩ | ⟨h1, h2, _⟩
      · exact h1
      · omega
    by_cases c4 : mtN T len q 22 = 1
    · have c4' := l4.mpr c4
      obtain ⟨w1, w2⟩ := tok_wd (k := 22) (by decide) (by rw [chr_5.2.2.2.1]; decide) q2 c4 a6
      refine link 14 2 t3 u3 σ3 (Or.inr rfl) c4' eW3 ht3 (fun o u' h => by have := hu3 o u' h; omega) (ok3.mono (by decide)) w1 w2 (by decide) hE3 d3 hfq3 p3 d6 (fun n => ?_)
      rw [hrun, c3z, c4, if_pos (show nI 0 = 0 from rfl), if_neg (show ¬ nI 1 = 0 by decide)]
      unfold b_X12_test_82
      rw [if_neg (show ¬ nI 1 = 0 by decide), d1, bnd]
      unfold b_X12_test_93
      rw [if_pos (show nI 0 = 0 from rfl)]
      unfold b_X12_test_105
      refine congrArg _ (funext fun r24 => ?_)
      rw [if_pos (show nI 0 = 0 from rfl)]; rfl
    · have c4z : mtN T len q 22 = 0 := by omega
      have hx3 : lk T len q ≠ 3 := fun h => c3 (l3.mp h)
      have hx4 : lk T len q ≠ 4 := fun h => c4 (l4.mp h)
      have hgo := x_goStep hl hT a3 q2 a6 a5 a4 hx3 hx4
      obtain ⟨i1, i2⟩ := noB ht3
      have f2 : dW W = dW t3 + dW u3 := by rw [eW3, dW_app]
      have f3 : nLk W = nLk t3 + nLk u3 := by rw [eW3, nLk_app]
      have f4 : nAw W = nAw t3 + nAw u3 := by rw [eW3, nAw_app]
      have f5 : W.length = t3.length + u3.length := by rw [eW3]; simp
      have hnt : nts (pd ++ t3) = dW t3 := by rw [nts_app, hnp, i1]; omega
      have hC1 : CV σ1 part (dW u3 + nts (pd ++ t3)) v ((pd ++ t3) ++ u3) (c0 ++ X) := by
        rw [hnt, List.append_assoc, ← eW3, show dW u3 + dW t3 = dW W by omega]; exact a8
      have hlv : ∀ o, o ∈ pd ++ t3 → o < 16 ∧ 1 ≤ lev o := fun o ho => by
        rcases List.mem_append.mp ho with h | h
        · exact ⟨by have := (hpd o h).1; omega, by have := (hpd o h).2; omega⟩
        · have h12 := ht3 o h
          rcases (by omega : o = 12 ∨ o = 13 ∨ o = 14) with e | e | e <;> subst e <;> decide
      have hrun3 : ∀ n, b_X12_test_9 (n + 1) 0 1 σm = (if topI u3 = (12 : Int32) then (if q < len ∧ T q = 93 then (b_X12_test_164 (b_X12_test_9 n) 0 1 σ3) else (b_X12_test_164 (b_X12_test_9 n) 0 1 (wI σ3 0 31 (nI (1 + 8 * q + 0))))) else b_X12_test_9 n 0 0 σ3) := fun n => by
        rw [hrun, c3z, c4z, if_pos (show nI 0 = 0 from rfl), if_pos (show nI 0 = 0 from rfl), d1, bnd, m_top d3 (by omega), bnd, m_sign (tm.fw hfq3) hl hT (by omega) p3, bnd, m_fails (x := (0 : Int32)) (c := 0) rfl p3 d6, bnd]
        rw [ite_iff (show (hI (cc T len q) = (93 : Int32)) ↔ (q < len ∧ T q = 93) from ccI (c := 93) (by decide) hT)]
        rfl
      have ety : tys 50 (X ++ op0 pd ++ op0 t3) [] = some (List.replicate (nLk u3 + 1) true) := by
        rw [tys_app, hty]
        show tys 50 (op0 t3) _ = _
        rw [f3, ty_t t3 (nLk u3) ht3]
      have eX : e0 ++ (X ++ op0 pd ++ op0 t3) = e0 ++ (X ++ op0 pd) ++ op0 t3 := by simp
      have eXc : c0 ++ (X ++ op0 pd ++ op0 t3) = c0 ++ X ++ op0 (pd ++ t3) := by simp [op0]
      have eXl : (X ++ op0 pd ++ op0 t3).length = (X ++ op0 pd).length + t3.length := by simp [op0]; omega
      rcases okS.last ok3 with hn | ⟨u4, e4, ok4⟩
      · subst hn
        have htop : ¬ topI ([] : List Nat) = (12 : Int32) := by decide
        have hd0 : dW ([] : List Nat) = 0 := rfl
        refine ⟨0, 0, y + 1, ?_⟩
        by_cases cb : q < len ∧ T q = 93
        · rw [if_pos cb] at hgo
          obtain ⟨σ', x1, x2, x3⟩ := x_close a5 a4 hC1 hlv hu3 (by simp; omega) (by simp; omega) (by omega) (fun h => absurd rfl h)
          rcases x3 with ⟨_, x4⟩ | ⟨u', x4, _⟩
          · exact ⟨σ', σ3, fun n => by rw [hrun3, if_neg htop], Rn.one (fun n => by rw [a1, hgo, x1, bnd]), fcx.trans x2, hfq3, Or.inr (Or.inr (Or.inr ⟨rfl, Or.inr ⟨q, cb.1, by omega, hskq, x4, tm.fw hfq3, p3, d6⟩⟩))⟩
          · cases x4
        · rw [if_neg cb] at hgo
          by_cases ce : q = len ∨ (q < len ∧ T q = 59)
          · rw [if_pos ce] at hgo
            obtain ⟨σ', x1, x2, x3, x4⟩ := x_endTest a5 a4 hC1 hlv hu3 (by simp; omega) (by simp; omega) (by omega)
            rcases x4 with ⟨_, x5, x6⟩ | ⟨x5, _⟩
            · refine ⟨σ', σ3, fun n => by rw [hrun3, if_neg htop], Rn.one (fun n => by rw [a1, hgo, x1, bnd]), fcx.trans x2, hfq3, Or.inr (Or.inr (Or.inr ⟨rfl, Or.inl ⟨q, v, N, X ++ op0 pd ++ op0 t3, part, a3.fc x2, tm.fw hfq3, q2, p3, hskq, d6, by rw [x5]; exact a4, by unfold TokX; rw [x5]; exact a6, ce, x3, by omega, n3, ?_, by rw [eX]; exact hE3, d3, ety, by omega⟩⟩))⟩
              rw [eXc]; exact x6
            · exact absurd rfl x5
          · rw [if_neg ce] at hgo
            have hlt : q < len ∧ T q ≠ 59 := ⟨by rcases Nat.lt_or_ge q len with h | h; exact h; exact absurd (Or.inl (by omega)) ce, fun h => ce (Or.inr ⟨by rcases Nat.lt_or_ge q len with h | h; exact h; exact absurd (Or.inl (by omega)) ce, h⟩)⟩
            exact ⟨wI σ1 20 6 (nI (1 + 8 * q + 0)), σ3, fun n => by rw [hrun3, if_neg htop], Rn.one (fun n => by rw [a1, hgo, bnd]), fcx.trans (FC.w _ _ _ (by decide)), hfq3, Or.inr (Or.inr (Or.inr ⟨rfl, Or.inr ⟨q, hlt.1, hlt.2, hskq, by rw [sI_r, if_pos rfl], tm.fw hfq3, p3, d6⟩⟩))⟩
      · subst e4
        have htop : topI (15 :: u4) = (12 : Int32) := rfl
        have hdu : dW (15 :: u4) = dW u4 + 1 := by unfold dW; simp; omega
        have hnu : nLk (15 :: u4) = nLk u4 := by unfold nLk; simp
        have hau : nAw (15 :: u4) = nAw u4 := by unfold nAw; rw [hnu]; simp
        have hlu : (15 :: u4).length = u4.length + 1 := rfl
        have h164 : ∀ (σ : MS) n, sI σ 0 30 = nI q → sI σ 0 37 = nI (u4.length + 1) → sI σ 0 35 = nI (dW u4 + 1) → b_X12_test_164 (b_X12_test_9 n) 0 1 σ = b_X12_test_9 n 0 1 (wI (wI (wI σ 0 30 (nI (q + 1))) 0 37 (nI u4.length)) 0 35 (nI (dW u4))) := fun σ n g1 g2 g3 => by
          unfold b_X12_test_164 b_X12_test_194 b_X12_test_199
          rw [g1, nl_add, show sI (wI σ 0 30 (nI (q + 1))) 0 37 = nI (u4.length + 1) by rw [sI_r, if_neg (by decide)]; exact g2, nl_sub (by omega), show u4.length + 1 - 1 = u4.length by omega, show sI (wI (wI σ 0 30 (nI (q + 1))) 0 37 (nI u4.length)) 0 35 = nI (dW u4 + 1) by rw [sI_r, if_neg (by decide), sI_r, if_neg (by decide)]; exact g3, nl_sub (by omega), show dW u4 + 1 - 1 = dW u4 by omega]
        have k37 : sI σ3 0 37 = nI (u4.length + 1) := by rw [d3.2.1]; rfl
        have k35 : sI σ3 0 35 = nI (dW u4 + 1) := by rw [d3.1, hdu]
        have fw : ∀ σ, FQ r σ (wI (wI (wI σ 0 30 (nI (q + 1))) 0 37 (nI u4.length)) 0 35 (nI (dW u4))) := fun σ => (FQ.w0 r _ _ (by decide)).trans ((FQ.w0 r _ _ (by decide)).trans (FQ.w0 r _ _ (by decide)))
        by_cases cb : q < len ∧ T q = 93
        · rw [if_pos cb] at hgo
          obtain ⟨σ', x1, x2, x3⟩ := x_close a5 a4 hC1 hlv hu3 (by simp; omega) (by simp; omega) (by omega) (fun _ => by omega)
          rcases x3 with ⟨x4, _⟩ | ⟨u', x4, x5, x6, x7⟩
          · cases x4
          · injection x4 with _ x4
            subst x4
            refine ⟨0, 1, y + 1, σ', wI (wI (wI σ3 0 30 (nI (q + 1))) 0 37 (nI u4.length)) 0 35 (nI (dW u4)), fun n => by rw [hrun3, if_pos htop, if_pos cb, h164 σ3 n p3 k37 k35], Rn.one (fun n => by rw [a1, hgo, x1, bnd]), fcx.trans x2, hfq3.trans (fw σ3), Or.inr (Or.inl ⟨rfl, rfl, q + 1, by omega, q + 1, N, v, part, X ++ op0 pd ++ op0 t3, [], u4, ⟨a3.fc x2, (tm.fw hfq3).fw (fw σ3), by omega, by rw [x6]; exact tok_s1 cb.1 cb.2 (by decide) a6, by omega, by rw [sI_r, if_neg (by decide), sI_r, if_neg (by decide), sI_r, if_pos rfl], rfl, by rw [x6]; exact a4, by rw [sI_r, if_neg (by decide), sI_r, if_neg (by decide), sI_r, if_neg (by decide)]; exact d6⟩, ⟨by omega, by omega, n3, by omega, ok4, by omega⟩, ⟨?_, ?_, ?_, fun o ho => by (cases ho), by decide, ?_, ?_⟩, Or.inl x5⟩)⟩
            · rw [eXc, show dW u4 = dW (15 :: u4) - 1 by omega]; exact x7
            · have e : X ++ op0 pd ++ op0 t3 ++ op0 [] = X ++ op0 pd ++ op0 t3 := by simp [op0]
              rw [e, eX]
              obtain ⟨z1, z2, z3, z4, z5⟩ := hE3
              exact ⟨by rw [sI_r, if_neg (by decide), sI_r, if_neg (by decide), sI_r, if_neg (by decide)]; exact z1, by rw [sI_r, if_neg (by decide), sI_r, if_neg (by decide), sI_r, if_neg (by decide)]; exact z2, fun i hi => by rw [sI_wIn _ _ _ _ (by decide), sI_wIn _ _ _ _ (by decide), sI_wIn _ _ _ _ (by decide), sI_wIn _ _ _ _ (by decide), sI_wIn _ _ _ _ (by decide), sI_wIn _ _ _ _ (by decide)]; exact z3 i hi, by rw [sI_r, if_neg (by decide), sI_r, if_neg (by decide), sI_r, if_neg (by decide)]; exact z4, by rw [sI_r, if_neg (by decide), sI_r, if_neg (by decide), sI_r, if_neg (by decide)]; exact z5⟩
            · exact d3.tl (by rw [sI_wIn _ _ _ _ (by decide), sI_wIn _ _ _ _ (by decide), sI_wIn _ _ _ _ (by decide)]) (by rw [sI_r, if_pos rfl]) (by rw [sI_r, if_neg (by decide), sI_r, if_pos rfl])
            · have e : X ++ op0 pd ++ op0 t3 ++ op0 [] = X ++ op0 pd ++ op0 t3 := by simp [op0]
              rw [e, ety, hnu]
            · have e : X ++ op0 pd ++ op0 t3 ++ op0 [] = X ++ op0 pd ++ op0 t3 := by simp [op0]
              rw [e]; omega
        · have hfl : ∀ σ' : MS, sI σ' 20 6 = nI (1 + 8 * q + 0) → Flt2 T len σ' (wI (wI (wI (wI σ3 0 31 (nI (1 + 8 * q + 0))) 0 30 (nI (q + 1))) 0 37 (nI u4.length)) 0 35 (nI (dW u4))) := fun σ' g => ⟨1 + 8 * q + 0, by omega, by omega, g, ⟨((tm.fw hfq3).fw (FQ.w0 r _ _ (by decide))).fw (fw _), ⟨q + 1, by omega, by rw [sI_r, if_neg (by decide), sI_r, if_neg (by decide), sI_r, if_pos rfl]⟩, by rw [sI_r, if_neg (by decide), sI_r, if_neg (by decide), sI_r, if_neg (by decide), sI_r, if_pos rfl]⟩⟩
          have hr4 : ∀ n, b_X12_test_9 (n + 1) 0 1 σm = b_X12_test_9 n 0 1 (wI (wI (wI (wI σ3 0 31 (nI (1 + 8 * q + 0))) 0 30 (nI (q + 1))) 0 37 (nI u4.length)) 0 35 (nI (dW u4))) := fun n => by
            rw [hrun3, if_pos htop, if_neg cb, h164 _ n (by rw [sI_r, if_neg (by decide)]; exact p3) (by rw [sI_r, if_neg (by decide)]; exact k37) (by rw [sI_r, if_neg (by decide)]; exact k35)]
          have hfq4 := hfq3.trans ((FQ.w0 r σ3 (k := 31) (nI (1 + 8 * q + 0)) (by decide)).trans (fw _))
          rw [if_neg cb] at hgo
          by_cases ce : q = len ∨ (q < len ∧ T q = 59)
          · rw [if_pos ce] at hgo
            obtain ⟨σ', x1, x2, x3, x4⟩ := x_endTest a5 a4 hC1 hlv hu3 (by simp; omega) (by simp; omega) (by omega)
            rcases x4 with ⟨x5, _⟩ | ⟨_, x5⟩
            · cases x5
            · exact ⟨0, 1, y + 1, σ', _, hr4, Rn.one (fun n => by rw [a1, hgo, x1, bnd]), fcx.trans x2, hfq4, Or.inr (Or.inr (Or.inl (hfl σ' x5)))⟩
          · rw [if_neg ce] at hgo
            exact ⟨0, 1, y + 1, _, _, hr4, Rn.one (fun n => by rw [a1, hgo, bnd]), fcx.trans (FC.w _ _ _ (by decide)), hfq4, Or.inr (Or.inr (Or.inl (hfl _ (by rw [sI_r, if_pos rfl]))))⟩
end TB
