/-! ===== pure: both read a sum ===== -/
section SM1
variable {len : Nat} {T : Nat → Nat}
/-- the class at p, the reference behind the blanks -/
def LQ (T : Nat → Nat) (len p : Nat) (σx σm : MS) : Prop := TX len T σx ∧ TM len T σm ∧ p ≤ len ∧ sI σx 20 1 = nI p ∧ sI σm 0 30 = nI (skB T len p) ∧ sI σx 20 6 = 0 ∧ sI σm 0 31 = 0
/-- new entries X ++ pd, pd not yet told by the class; bl bounds the height they may start at -/
def SOut (T : Nat → Nat) (len ql r part dep B x L k bl y v : Nat) (bad : Nat → Prop) (ws : List Nat) (cs es : List Ent) (y' : Nat) (σx' σm' : MS) : Prop :=
  ∃ p' v' X pd, LQ T len p' σx' σm' ∧ ql < p' ∧ y < y' ∧ y' ≤ p' ∧ v + 1 ≤ v' ∧ v' ≤ 60 ∧ sI σx' 17 3 = 2 ∧ CV σx' part dep v' (pd ++ ws) (cs ++ X) ∧ EM σm' r (es ++ (X ++ op0 pd)) v' ∧ (∀ o, o ∈ pd → o < 7 ∧ L ≤ lev o) ∧ pd.length ≤ k ∧ (∀ ts : List Bool, ts.length ≤ bl → tys 50 (X ++ op0 pd) ts = some (false :: ts)) ∧ es.length + (X ++ op0 pd).length + x + 1 ≤ 2 * v' + B ∧ ¬ (skB T len p' < len ∧ bad (T (skB T len p')))
def Flt2 (T : Nat → Nat) (len : Nat) (σx' σm' : MS) : Prop := ∃ f, f ≠ 0 ∧ f ≤ 4000 ∧ sI σx' 20 6 = nI f ∧ FltM T len f σm'
def sg6 (s : Nat) : Prop := s = 42 ∨ s = 47 ∨ s = 37
def sg5 (s : Nat) : Prop := s = 43 ∨ s = 45
theorem ccI {q c : Nat} (hc : c < 1000) (hT : ∀ i, i < len → T i < 256) : (hI (cc T len q) = nI c) ↔ (q < len ∧ T q = c) := by
  have := cc_le hT q
  rw [hI_n (by omega) (by omega)]
  by_cases h : q < len
  · rw [cc_in h]; omega
  · rw [cc_out h]; omega
theorem ty_v {e : Ent} (h : okVl e) {ts : List Bool} (ht : ts.length ≤ 46) : tys 50 [e] ts = some (false :: ts) := by
  obtain ⟨e1, e2⟩ := e
  have h' : (e1 = 0 ∧ e2 < 100000) ∨ (e1 = 1 ∧ e2 < 12) := h
  unfold tys ty1
  rcases h' with ⟨h1, h2⟩ | ⟨h1, h2⟩
  · subst h1
    simp [tys]; omega
  · subst h1
    simp [tys]; omega
theorem ty_o {o : Nat} (h1 : 2 ≤ o) (h2 : o ≤ 6) {ts : List Bool} : tys 50 [(o, 0)] (false :: false :: ts) = some (false :: ts) := by
  rcases (by omega : o = 2 ∨ o = 3 ∨ o = 4 ∨ o = 5 ∨ o = 6) with h | h | h | h | h <;> subst h <;> rfl
theorem m_t8 (hl : len ≤ 400) (hT : ∀ i, i < len → T i < 256) {q n : Nat} {σ : MS} (tm : TM len T σ) (e30 : sI σ 0 30 = nI q) (hq : q ≤ len) (e31 : sI σ 0 31 = 0) : (q < len ∧ sg6 (T q) → b_X12_term_8 (n + 1) σ = b_X12_term_72 (b_X12_term_8 n) (nI (trm (opOf (T q) - 1))) σ) ∧ (¬ (q < len ∧ sg6 (T q)) → b_X12_term_8 (n + 1) σ = some σ) := by
  have hs := m_sign tm hl hT (by omega) e30
  have k42 : ((hI (cc T len q)) = (42 : Int32)) ↔ (q < len ∧ T q = 42) := ccI (by decide) hT
  have k47 : ((hI (cc T len q)) = (47 : Int32)) ↔ (q < len ∧ T q = 47) := ccI (by decide) hT
  have k37 : ((hI (cc T len q)) = (37 : Int32)) ↔ (q < len ∧ T q = 37) := ccI (by decide) hT
  have e0 : b_X12_term_8 (n + 1) σ = if hI (cc T len q) = (42 : Int32) then b_X12_term_42 (b_X12_term_8 n) σ else if hI (cc T len q) = (47 : Int32) then b_X12_term_42 (b_X12_term_8 n) σ else if hI (cc T len q) = (37 : Int32) then b_X12_term_42 (b_X12_term_8 n) σ else some σ := by
    show (if sI σ 0 31 = 0 then _ else _) = _
    rw [if_pos e31, hs]
    rfl
  have e42 : b_X12_term_42 (b_X12_term_8 n) σ = if hI (cc T len q) = (42 : Int32) then b_X12_term_72 (b_X12_term_8 n) 13 σ else if hI (cc T len q) = (47 : Int32) then b_X12_term_72 (b_X12_term_8 n) 14 σ else b_X12_term_72 (b_X12_term_8 n) 15 σ := by
    unfold b_X12_term_42
    rw [hs]; rfl
  constructor
  · rintro ⟨h1, h2⟩
    rw [e0, e42]
    rcases h2 with h | h | h
    · rw [if_pos (k42.mpr ⟨h1, h⟩), if_pos (k42.mpr ⟨h1, h⟩), h]; rfl
    · rw [if_neg (fun g => by have := (k42.mp g).2; omega), if_pos (k47.mpr ⟨h1, h⟩), if_neg (fun g => by have := (k42.mp g).2; omega), if_pos (k47.mpr ⟨h1, h⟩), h]; rfl
    · rw [if_neg (fun g => by have := (k42.mp g).2; omega), if_neg (fun g => by have := (k47.mp g).2; omega), if_pos (k37.mpr ⟨h1, h⟩), if_neg (fun g => by have := (k42.mp g).2; omega), if_neg (fun g => by have := (k47.mp g).2; omega), h]; rfl
  · intro hn
    rw [e0, if_neg (fun g => hn ⟨(k42.mp g).1, Or.inl (k42.mp g).2⟩), if_neg (fun g => hn ⟨(k47.mp g).1, Or.inr (Or.inl (k47.mp g).2)⟩), if_neg (fun g => hn ⟨(k37.mp g).1, Or.inr (Or.inr (k37.mp g).2)⟩)]
theorem m_t8F {n f : Nat} {σ : MS} (hf : f ≠ 0) (hf2 : f ≤ 4000) (h : sI σ 0 31 = nI f) : b_X12_term_8 (n + 1) σ = some σ := by
  show (if sI σ 0 31 = 0 then _ else _) = _
  rw [h, if_neg (by rw [n_zero (by omega)]; exact hf)]; rfl
theorem sg6_op {s : Nat} (h : sg6 s) : sgS s ∧ lev (opOf s - 1) = 6 ∧ 2 ≤ opOf s - 1 ∧ opOf s - 1 ≤ 6 := by
  unfold sgS
  rcases h with h | h | h <;> subst h <;> decide
theorem sg5_op {s : Nat} (h : sg5 s) : sgS s ∧ lev (opOf s - 1) = 5 ∧ 2 ≤ opOf s - 1 ∧ opOf s - 1 ≤ 6 := by
  unfold sgS
  rcases h with h | h <;> subst h <;> decide
/-- the loop of a product -/
theorem j_tloop (hl : len ≤ 400) (hT : ∀ i, i < len → T i < 256) {ql r part dep B x y0 v0 : Nat} {ws : List Nat} {cs es : List Ent} (hr : r < 6) (hpart : part < 3) (hdep : dep < 900) (hB : B ≤ 170) (hws : ∀ o u', ws = o :: u' → o < 16 ∧ lev o < 6) (hwl : ws.length ≤ 60) (hce : cs.length ≤ es.length + 13) : ∀ (j n p y v : Nat) (X : List Ent) (pd : List Nat) (σx σm : MS), len ≤ p + j → j < n → LQ T len p σx σm → ql < p → y0 < y → y ≤ p → v0 + 1 ≤ v → v ≤ 60 → sI σx 17 3 = 2 → CV σx part dep v (pd ++ ws) (cs ++ X) → EM σm r (es ++ (X ++ op0 pd)) v → (∀ o, o ∈ pd → o < 7 ∧ 6 ≤ lev o) → pd.length ≤ 1 → (∀ ts : List Bool, ts.length ≤ 45 → tys 50 (X ++ op0 pd) ts = some (false :: ts)) → es.length + (X ++ op0 pd).length + x + 1 ≤ 2 * v + B →
    ∃ y' σx' σm', b_X12_term_8 n σm = some σm' ∧ Rn y σx y' σx' ∧ FC σx σx' ∧ FQ r σm σm' ∧ ((SOut T len ql r part dep B x 6 1 45 y0 v0 sg6 ws cs es y' σx' σm' ∧ FS σm σm') ∨ Flt2 T len σx' σm')
  | j, n + 1, p, y, v, X, pd, σx, σm, hj, hn, hL, hql, hy0, hy, hv0, hv, h3, hc, hE, hpd, hpl, hty, hb => by
    obtain ⟨tx, tm, hp, e1, e30, h6, e31⟩ := hL
    obtain ⟨q1, q2⟩ := skB_le T hp
    obtain ⟨k1, k2⟩ := m_t8 (n := n) hl hT tm e30 q2 e31
    by_cases c : skB T len p < len ∧ sg6 (T (skB T len p))
    · rw [k1 c]
      obtain ⟨c1, c2⟩ := c
      obtain ⟨g1, g2, g3, g4⟩ := sg6_op c2
      have hlp : (X ++ op0 pd).length = X.length + pd.length := by simp [op0]
      obtain ⟨σa, a1, a2, a3, a4, a5, a6⟩ := it_sign (y := y) hl hT tx hp e1 h6 h3 (by omega) c1 g1 hc hpart (fun o ho => ⟨(hpd o ho).1, by rw [g2]; exact (hpd o ho).2⟩) (fun o u' hu => ⟨(hws o u' hu).1, by rw [g2]; exact (hws o u' hu).2⟩) (by omega) (by simp; omega) hdep
      generalize ho : opOf (T (skB T len p)) - 1 = o at *
      have txa := tx.fc a2
      obtain ⟨σ1, b1, b2, b3, b4, b5⟩ := it_value hl hT txa (p := skB T len p + 1) (by omega) a4 a5 a3 (y := y + 1) (by omega)
      obtain ⟨q3, q4⟩ := skB_le T (show skB T len p + 1 ≤ len by omega)
      have hE1 : EM (wI σm 0 30 (nI (skB T len p + 1))) r (es ++ (X ++ op0 pd)) v := hE.fr (FR.w30 _ _)
      obtain ⟨σx', σm', d1, d2, d3, d4, d5⟩ := j_value hl hT (txa.fa b2 (by decide) (by decide)) b5 b4 b3 q4 (a6.fa b2) (by simp at hb ⊢; simp [op0] at hb ⊢; omega) hv (tm.fr (FR.w30 _ _)) (by rw [sI_r, if_pos rfl]) (by omega) rfl (by rw [sI_r, if_neg (by decide)]; exact e31) hE1 hr (by simp at hb ⊢; omega)
      have rn : Rn y σx (y + 2) σx' := a1.trans (Rn.one (fun n => by rw [b1, d1, bnd]))
      have fc : FC σx σx' := a2.trans (b2.fc.trans d3)
      unfold b_X12_term_72
      rw [e30, nl_add, d2, bnd]
      rcases d5 with ⟨p', e, v1, v2, v3, v4, v5, v6, v7, v8⟩ | ⟨f, f1, f2, f3, f4⟩
      · obtain ⟨w1, w2, w3, w4, w5, w6, w7⟩ := v2
        obtain ⟨σ4, t1, t2, t3, t4, t5⟩ := m_entry (e := (o, 0)) (x := nI (trm o)) (y := (0 : Int32)) rfl rfl w7 v7 hr (by simp at hb ⊢; omega)
        rw [t1, bnd]
        have tm4 := w2.fw t3
        obtain ⟨σ5, s1, s2, s3, s4⟩ := m_blanks hl hT (p := p') (by omega) tm4 (by rw [t4 30 (by decide)]; exact w5)
        rw [s1, bnd]
        have fq : FQ r σm σ5 := ((FR.w30 σm _).f2 r).trans (d4.trans (t3.trans (s2.f2 r)))
        have fs : FS σm σ5 := ((FR.w30 σm _).fs).trans (v8.trans (FS.trans ⟨t5, t4 35 (by decide), t4 37 (by decide)⟩ s2.fs))
        have hes : es ++ (X ++ op0 pd) ++ [e] ++ [(o, 0)] = es ++ ((X ++ op0 pd ++ [e]) ++ op0 [o]) := by simp [op0]
        have hE5 := t2.fr s2
        rw [hes] at hE5
        obtain ⟨y', σx2, σm2, z1, z2, z3, z4, z5⟩ := j_tloop (ql := ql) (x := x) (y0 := y0) (v0 := v0) hl hT hr hpart hdep hB hws hwl hce (j - 1) n p' (y + 2) (v + 1) (X ++ op0 pd ++ [e]) [o] σx' σ5 (by omega) (by omega) ⟨w1, tm4.fr s2, w3, w4, s4, w6, by rw [s3, t4 31 (by decide)]; exact w7⟩ (by omega) (by omega) (by omega) (by omega) (by omega) v5 (by rw [← List.append_assoc, ← List.append_assoc]; exact v6) hE5 (fun o' ho' => by
          have : o' = o := by simpa using ho'
          subst this
          exact ⟨by omega, by omega⟩) (by simp) (fun ts hts => by
          have e2 : (X ++ op0 pd ++ [e]) ++ op0 [o] = (X ++ op0 pd) ++ ([e] ++ [(o, 0)]) := by simp [op0]
          rw [e2, tys_app, hty ts hts]
          show tys 50 ([e] ++ [(o, 0)]) (false :: ts) = _
          rw [tys_app, ty_v v4 (by simp; omega)]
          exact ty_o g3 g4) (by simp [op0] at hb ⊢; omega)
        refine ⟨y', σx2, σm2, z1, rn.trans z2, fc.trans z3, fq.trans z4, ?_⟩
        rcases z5 with ⟨z5, z6⟩ | z5
        · exact Or.inl ⟨z5, fs.trans z6⟩
        · exact Or.inr z5
      · rw [m_entryF f1 f2 f4.2.2, bnd]
        obtain ⟨σ5, s1, s2, s3⟩ := f4.blanks hl hT
        rw [s1, bnd]
        obtain ⟨n', hn'⟩ : ∃ n', n = n' + 1 := ⟨n - 1, by omega⟩
        rw [hn', m_t8F f1 f2 s3.2.2]
        exact ⟨y + 2, σx', σ5, rfl, rn, fc, ((FR.w30 σm _).f2 r).trans (d4.trans (s2.f2 r)), Or.inr ⟨f, f1, f2, f3, s3⟩⟩
    · rw [k2 c]
      exact ⟨y, σx, σm, rfl, Rn.refl y σx, FC.refl σx, FQ.refl r σm, Or.inl ⟨⟨p, v, X, pd, ⟨tx, tm, hp, e1, e30, h6, e31⟩, hql, hy0, hy, hv0, hv, h3, hc, hE, hpd, hpl, hty, hb, c⟩, FS.refl σm⟩⟩
  | _, 0, _, _, _, _, _, _, _, _, hn, _, _, _, _, _, _, _, _, _, _, _, _, _ => absurd hn (Nat.not_lt_zero _)
end SM1
