/-! ===== pure: products and sums ===== -/
section SM2
variable {len : Nat} {T : Nat → Nat}
theorem j_term (hl : len ≤ 400) (hT : ∀ i, i < len → T i < 256) {q p0 r v part dep B x y : Nat} {ws : List Nat} {cs es : List Ent} {σ1 σm : MS} (tx : TX len T σ1) (tk : TokX 20 T len q σ1) (h3 : sI σ1 20 3 = nI q) (h6 : sI σ1 20 6 = 0) (hq : q ≤ len) (hc : CV σ1 part dep v ws cs) (hv : v ≤ 60) (tm : TM len T σm) (e30 : sI σm 0 30 = nI p0) (hp0 : p0 ≤ len) (hpq : skB T len p0 = q) (e31 : sI σm 0 31 = 0) (hE : EM σm r es v) (hr : r < 6) (hpart : part < 3) (hdep : dep < 900) (hB : B ≤ 170) (hws : ∀ o u', ws = o :: u' → o < 16 ∧ lev o < 6) (hwl : ws.length ≤ 60) (hce : cs.length ≤ es.length + 13) (hb : es.length + x ≤ 2 * v + B) (hy : y ≤ q) :
    ∃ s y' σx' σm', f_X12_term σm = some σm' ∧ f_X7_readValue σ1 = some s ∧ Rn (y + 1) s y' σx' ∧ FC σ1 σx' ∧ FQ r σm σm' ∧ ((SOut T len q r part dep B x 6 1 45 y v sg6 ws cs es y' σx' σm' ∧ FS σm σm') ∨ Flt2 T len σx' σm') := by
  obtain ⟨σx', σm', d1, d2, d3, d4, d5⟩ := j_value hl hT tx tk h3 h6 hq hc (by omega) hv tm e30 hp0 hpq e31 hE hr (by omega)
  unfold f_X12_term b_X12_term_0
  rw [d2, bnd]
  rcases d5 with ⟨p', e, v1, v2, v3, v4, v5, v6, v7, v8⟩ | ⟨f, f1, f2, f3, f4⟩
  · obtain ⟨w1, w2, w3, w4, w5, w6, w7⟩ := v2
    obtain ⟨σ5, s1, s2, s3, s4⟩ := m_blanks hl hT (p := p') (by omega) w2 w5
    rw [s1, bnd]
    have hE5 := v7.fr s2
    have e0 : es ++ [e] = es ++ ([e] ++ op0 []) := by simp [op0]
    rw [e0] at hE5
    obtain ⟨y', σx2, σm2, z1, z2, z3, z4, z5⟩ := j_tloop (ql := q) (x := x) (y0 := y) (v0 := v) (B := B) hl hT hr hpart hdep hB hws hwl hce len FU p' (y + 1) (v + 1) [e] [] σx' σ5 (by omega) (by unfold FU; omega) ⟨w1, w2.fr s2, w3, w4, s4, w6, by rw [s3]; exact w7⟩ (by omega) (by omega) (by omega) (by omega) (by omega) v5 v6 hE5 (fun o ho => absurd ho (by simp)) (by simp) (fun ts hts => by
      show tys 50 [e] ts = _
      exact ty_v v4 (by omega)) (by simp [op0]; omega)
    refine ⟨σx', y', σx2, σm2, z1, d1, z2, d3.trans z3, d4.trans ((s2.f2 r).trans z4), ?_⟩
    rcases z5 with ⟨z5, z6⟩ | z5
    · exact Or.inl ⟨z5, v8.trans (s2.fs.trans z6)⟩
    · exact Or.inr z5
  · obtain ⟨σ5, s1, s2, s3⟩ := f4.blanks hl hT
    rw [s1, bnd, show FU = 999999 + 1 from rfl, m_t8F f1 f2 s3.2.2]
    exact ⟨σx', y + 1, σx', σ5, rfl, d1, Rn.refl _ _, d3, d4.trans (s2.f2 r), Or.inr ⟨f, f1, f2, f3, s3⟩⟩
theorem m_s4 (hl : len ≤ 400) (hT : ∀ i, i < len → T i < 256) {q n : Nat} {σ : MS} (tm : TM len T σ) (e30 : sI σ 0 30 = nI q) (hq : q ≤ len) (e31 : sI σ 0 31 = 0) : (q < len ∧ sg5 (T q) → b_X12_sum_4 (n + 1) σ = b_X12_sum_43 (b_X12_sum_4 n) (nI (trm (opOf (T q) - 1))) σ) ∧ (¬ (q < len ∧ sg5 (T q)) → b_X12_sum_4 (n + 1) σ = some σ) := by
  have hs := m_sign tm hl hT (by omega) e30
  have k43 : ((hI (cc T len q)) = (43 : Int32)) ↔ (q < len ∧ T q = 43) := ccI (by decide) hT
  have k45 : ((hI (cc T len q)) = (45 : Int32)) ↔ (q < len ∧ T q = 45) := ccI (by decide) hT
  have e0 : b_X12_sum_4 (n + 1) σ = if hI (cc T len q) = (43 : Int32) then b_X12_sum_29 (b_X12_sum_4 n) σ else if hI (cc T len q) = (45 : Int32) then b_X12_sum_29 (b_X12_sum_4 n) σ else some σ := by
    show (if sI σ 0 31 = 0 then _ else _) = _
    rw [if_pos e31, hs]
    rfl
  have e42 : b_X12_sum_29 (b_X12_sum_4 n) σ = if hI (cc T len q) = (43 : Int32) then b_X12_sum_43 (b_X12_sum_4 n) 2 σ else b_X12_sum_43 (b_X12_sum_4 n) 3 σ := by
    unfold b_X12_sum_29
    rw [hs]; rfl
  constructor
  · rintro ⟨h1, h2⟩
    rw [e0, e42]
    rcases h2 with h | h
    · rw [if_pos (k43.mpr ⟨h1, h⟩), if_pos (k43.mpr ⟨h1, h⟩), h]; rfl
    · rw [if_neg (fun g => by have := (k43.mp g).2; omega), if_pos (k45.mpr ⟨h1, h⟩), if_neg (fun g => by have := (k43.mp g).2; omega), h]; rfl
  · intro hn
    rw [e0, if_neg (fun g => hn ⟨(k43.mp g).1, Or.inl (k43.mp g).2⟩), if_neg (fun g => hn ⟨(k45.mp g).1, Or.inr (k45.mp g).2⟩)]
theorem m_s4F {n f : Nat} {σ : MS} (hf : f ≠ 0) (hf2 : f ≤ 4000) (h : sI σ 0 31 = nI f) : b_X12_sum_4 (n + 1) σ = some σ := by
  show (if sI σ 0 31 = 0 then _ else _) = _
  rw [h, if_neg (by rw [n_zero (by omega)]; exact hf)]; rfl
theorem sg_56 {s : Nat} (h : sgS s) : sg6 s ∨ sg5 s := by
  unfold sgS at h
  unfold sg6 sg5
  omega
theorem j_sloop (hl : len ≤ 400) (hT : ∀ i, i < len → T i < 256) {ql r part dep B x y0 v0 : Nat} {ws : List Nat} {cs es : List Ent} (hr : r < 6) (hpart : part < 3) (hdep : dep < 900) (hB : B ≤ 170) (hws : ∀ o u', ws = o :: u' → o < 16 ∧ lev o < 5) (hwl : ws.length ≤ 59) (hce : cs.length ≤ es.length + 13) : ∀ (j n p y v : Nat) (X : List Ent) (pd : List Nat) (σx σm : MS), len ≤ p + j → j < n → LQ T len p σx σm → ql < p → y0 < y → y ≤ p → v0 + 1 ≤ v → v ≤ 60 → sI σx 17 3 = 2 → CV σx part dep v (pd ++ ws) (cs ++ X) → EM σm r (es ++ (X ++ op0 pd)) v → (∀ o, o ∈ pd → o < 7 ∧ 5 ≤ lev o) → pd.length ≤ 2 → (∀ ts : List Bool, ts.length ≤ 40 → tys 50 (X ++ op0 pd) ts = some (false :: ts)) → es.length + (X ++ op0 pd).length + x + 1 ≤ 2 * v + B → ¬ (skB T len p < len ∧ sg6 (T (skB T len p))) →
    ∃ y' σx' σm', b_X12_sum_4 n σm = some σm' ∧ Rn y σx y' σx' ∧ FC σx σx' ∧ FQ r σm σm' ∧ ((SOut T len ql r part dep B x 5 2 40 y0 v0 sgS ws cs es y' σx' σm' ∧ FS σm σm') ∨ Flt2 T len σx' σm')
  | j, n + 1, p, y, v, X, pd, σx, σm, hj, hn, hL, hql, hy0, hy, hv0, hv, h3, hc, hE, hpd, hpl, hty, hb, hn6 => by
    obtain ⟨tx, tm, hp, e1, e30, h6, e31⟩ := hL
    obtain ⟨q1, q2⟩ := skB_le T hp
    obtain ⟨k1, k2⟩ := m_s4 (n := n) hl hT tm e30 q2 e31
    by_cases c : skB T len p < len ∧ sg5 (T (skB T len p))
    · rw [k1 c]
      obtain ⟨c1, c2⟩ := c
      obtain ⟨g1, g2, g3, g4⟩ := sg5_op c2
      have hlp : (X ++ op0 pd).length = X.length + pd.length := by simp [op0]
      obtain ⟨σa, a1, a2, a3, a4, a5, a6⟩ := it_sign (y := y) hl hT tx hp e1 h6 h3 (by omega) c1 g1 hc hpart (fun o ho => ⟨(hpd o ho).1, by rw [g2]; exact (hpd o ho).2⟩) (fun o u' hu => ⟨(hws o u' hu).1, by rw [g2]; exact (hws o u' hu).2⟩) (by omega) (by simp; omega) hdep
      generalize ho : opOf (T (skB T len p)) - 1 = o at *
      have txa := tx.fc a2
      obtain ⟨σ1, b1, b2, b3, b4, b5⟩ := it_value hl hT txa (p := skB T len p + 1) (by omega) a4 a5 a3 (y := y + 1) (by omega)
      obtain ⟨q3, q4⟩ := skB_le T (show skB T len p + 1 ≤ len by omega)
      have hE1 : EM (wI σm 0 30 (nI (skB T len p + 1))) r (es ++ (X ++ op0 pd)) v := hE.fr (FR.w30 _ _)
      obtain ⟨s, y', σx', σm', d2, d1, drn, d3, d4, d5⟩ := j_term (B := B) (x := x + 1) (y := y + 1) (ws := o :: ws) hl hT (txa.fa b2 (by decide) (by decide)) b5 b4 b3 q4 (a6.fa b2) hv (tm.fr (FR.w30 _ _)) (by rw [sI_r, if_pos rfl]) (by omega) rfl (by rw [sI_r, if_neg (by decide)]; exact e31) hE1 hr hpart hdep hB (fun o' u' hu => by
        have : o = o' := by injection hu
        subst this
        exact ⟨by omega, by omega⟩) (by simp; omega) (by simp [op0] at hb ⊢; omega) (by simp at hb ⊢; omega) (by omega)
      have rn : Rn y σx y' σx' := a1.trans (Rn.trans (Rn.one (fun n => by rw [b1, d1, bnd])) drn)
      have fc : FC σx σx' := a2.trans (b2.fc.trans d3)
      unfold b_X12_sum_43
      rw [e30, nl_add, d2, bnd]
      rcases d5 with ⟨⟨p', v', X2, pd6, w0, u0, u1, u2, u3, u4, u5, u6, u7, u8, u9, u10, u11, u12⟩, v8⟩ | ⟨f, f1, f2, f3, f4⟩
      · obtain ⟨w1, w2, w3, w4, w5, w6, w7⟩ := w0
        have hl2 : (X2 ++ op0 pd6).length = X2.length + pd6.length := by simp [op0]
        have hl3 : (es ++ (X ++ op0 pd)).length = es.length + (X ++ op0 pd).length := by simp
        obtain ⟨σ4, t1, t2, t3, t4, t5⟩ := m_entry (e := (o, 0)) (x := nI (trm o)) (y := (0 : Int32)) rfl rfl w7 u7 hr (by rw [List.length_append]; omega)
        rw [t1, bnd]
        have tm4 := w2.fw t3
        have fq : FQ r σm σ4 := ((FR.w30 σm _).f2 r).trans (d4.trans t3)
        have fs : FS σm σ4 := ((FR.w30 σm _).fs).trans (v8.trans ⟨t5, t4 35 (by decide), t4 37 (by decide)⟩)
        have hes : es ++ (X ++ op0 pd) ++ (X2 ++ op0 pd6) ++ [(o, 0)] = es ++ ((X ++ op0 pd ++ X2) ++ op0 (pd6 ++ [o])) := by simp [op0]
        have hE5 := t2
        rw [hes] at hE5
        have hl4 : (X ++ op0 pd ++ X2 ++ op0 (pd6 ++ [o])).length = (X ++ op0 pd).length + (X2 ++ op0 pd6).length + 1 := by simp [op0]; omega
        obtain ⟨y2, σx2, σm2, z1, z2, z3, z4, z5⟩ := j_sloop (ql := ql) (x := x) (y0 := y0) (v0 := v0) hl hT hr hpart hdep hB hws hwl hce (j - 1) n p' y' v' (X ++ op0 pd ++ X2) (pd6 ++ [o]) σx' σ4 (by omega) (by omega) ⟨w1, tm4, w3, w4, by rw [t4 30 (by decide)]; exact w5, w6, by rw [t4 31 (by decide)]; exact w7⟩ (by omega) (by omega) u2 (by omega) u4 u5 (by
            have e3 : pd6 ++ [o] ++ ws = pd6 ++ (o :: ws) := by simp
            have e4 : cs ++ (X ++ op0 pd ++ X2) = cs ++ X ++ op0 pd ++ X2 := by simp
            rw [e3, e4]; exact u6) hE5 (fun o' ho' => by
          rcases List.mem_append.mp ho' with h | h
          · exact ⟨(u8 o' h).1, by have := (u8 o' h).2; omega⟩
          · have : o' = o := by simpa using h
            subst this
            exact ⟨by omega, by omega⟩) (by simp; omega) (fun ts hts => by
          have e2 : (X ++ op0 pd ++ X2) ++ op0 (pd6 ++ [o]) = (X ++ op0 pd) ++ ((X2 ++ op0 pd6) ++ [(o, 0)]) := by simp [op0]
          rw [e2, tys_app, hty ts hts]
          show tys 50 ((X2 ++ op0 pd6) ++ [(o, 0)]) (false :: ts) = _
          rw [tys_app, u10 (false :: ts) (by simp; omega)]
          exact ty_o g3 g4) (by omega) u12
        refine ⟨y2, σx2, σm2, z1, rn.trans z2, fc.trans z3, fq.trans z4, ?_⟩
        rcases z5 with ⟨z5, z6⟩ | z5
        · exact Or.inl ⟨z5, fs.trans z6⟩
        · exact Or.inr z5
      · rw [m_entryF f1 f2 f4.2.2, bnd]
        obtain ⟨n', hn'⟩ : ∃ n', n = n' + 1 := ⟨n - 1, by omega⟩
        rw [hn', m_s4F f1 f2 f4.2.2]
        exact ⟨y', σx', σm', rfl, rn, fc, ((FR.w30 σm _).f2 r).trans d4, Or.inr ⟨f, f1, f2, f3, f4⟩⟩
    · rw [k2 c]
      exact ⟨y, σx, σm, rfl, Rn.refl y σx, FC.refl σx, FQ.refl r σm, Or.inl ⟨⟨p, v, X, pd, ⟨tx, tm, hp, e1, e30, h6, e31⟩, hql, hy0, hy, hv0, hv, h3, hc, hE, hpd, hpl, hty, hb, fun h => (sg_56 h.2).elim (fun g => hn6 ⟨h.1, g⟩) (fun g => c ⟨h.1, g⟩)⟩, FS.refl σm⟩⟩
  | _, 0, _, _, _, _, _, _, _, _, hn, _, _, _, _, _, _, _, _, _, _, _, _, _, _ => absurd hn (Nat.not_lt_zero _)
/-- a sum: the class at its first token, about to read a value -/
theorem j_sum (hl : len ≤ 400) (hT : ∀ i, i < len → T i < 256) {q p0 r v part dep B x y : Nat} {ws : List Nat} {cs es : List Ent} {σ1 σm : MS} (tx : TX len T σ1) (tk : TokX 20 T len q σ1) (h3 : sI σ1 20 3 = nI q) (h6 : sI σ1 20 6 = 0) (hq : q ≤ len) (hc : CV σ1 part dep v ws cs) (hv : v ≤ 60) (tm : TM len T σm) (e30 : sI σm 0 30 = nI p0) (hp0 : p0 ≤ len) (hpq : skB T len p0 = q) (e31 : sI σm 0 31 = 0) (hE : EM σm r es v) (hr : r < 6) (hpart : part < 3) (hdep : dep < 900) (hB : B ≤ 170) (hws : ∀ o u', ws = o :: u' → o < 16 ∧ lev o < 5) (hwl : ws.length ≤ 59) (hce : cs.length ≤ es.length + 13) (hb : es.length + x ≤ 2 * v + B) (hy : y ≤ q) :
    ∃ s y' σx' σm', f_X12_sum σm = some σm' ∧ f_X7_readValue σ1 = some s ∧ Rn (y + 1) s y' σx' ∧ FC σ1 σx' ∧ FQ r σm σm' ∧ ((SOut T len q r part dep B x 5 2 40 y v sgS ws cs es y' σx' σm' ∧ FS σm σm') ∨ Flt2 T len σx' σm') := by
  obtain ⟨s, y', σx', σm', d2, d1, drn, d3, d4, d5⟩ := j_term (B := B) (x := x) (y := y) hl hT tx tk h3 h6 hq hc hv tm e30 hp0 hpq e31 hE hr hpart hdep hB (fun o u' h => ⟨(hws o u' h).1, by have := (hws o u' h).2; omega⟩) (by omega) hce hb hy
  unfold f_X12_sum b_X12_sum_0
  rw [d2, bnd]
  rcases d5 with ⟨⟨p', v', X2, pd6, w0, u0, u1, u2, u3, u4, u5, u6, u7, u8, u9, u10, u11, u12⟩, v8⟩ | ⟨f, f1, f2, f3, f4⟩
  · obtain ⟨y2, σx2, σm2, z1, z2, z3, z4, z5⟩ := j_sloop (ql := q) (x := x) (y0 := y) (v0 := v) (B := B) hl hT hr hpart hdep hB hws hwl hce len FU p' y' v' X2 pd6 σx' σm' (by omega) (by unfold FU; omega) w0 u0 u1 u2 u3 u4 u5 u6 u7 (fun o ho => ⟨(u8 o ho).1, by have := (u8 o ho).2; omega⟩) (by omega) (fun ts hts => u10 ts (by omega)) u11 u12
    refine ⟨s, y2, σx2, σm2, z1, d1, drn.trans z2, d3.trans z3, d4.trans z4, ?_⟩
    rcases z5 with ⟨z5, z6⟩ | z5
    · exact Or.inl ⟨z5, v8.trans z6⟩
    · exact Or.inr z5
  · rw [show FU = 999999 + 1 from rfl, m_s4F f1 f2 f4.2.2]
    exact ⟨s, y', σx', σm', rfl, d1, drn, d3, d4, Or.inr ⟨f, f1, f2, f3, f4⟩⟩
/-- a sum of the reference behind a fault -/
theorem m_sumF (hl : len ≤ 400) (hT : ∀ i, i < len → T i < 256) {f r : Nat} (hf : f ≠ 0) (hf2 : f ≤ 4000) {σ : MS} (h : FltM T len f σ) (h38 : sI σ 0 38 = nI 12) : ∃ σ', f_X12_sum σ = some σ' ∧ FQ r σ σ' ∧ FltM T len f σ' := by
  obtain ⟨σ1, a1, a2, a3⟩ := m_valueF (r := r) hl hT hf hf2 h h38
  obtain ⟨σ2, b1, b2, b3⟩ := a3.blanks hl hT
  unfold f_X12_sum b_X12_sum_0 f_X12_term b_X12_term_0
  rw [a1, bnd, b1, bnd, show FU = 999999 + 1 from rfl, m_t8F hf hf2 b3.2.2, bnd, m_s4F hf hf2 b3.2.2]
  exact ⟨σ2, rfl, a2.trans (b2.f2 r), b3⟩
end SM2
