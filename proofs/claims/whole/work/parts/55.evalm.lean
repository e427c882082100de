/-! ===== pure: the reference's machine ===== -/
section
def RMc (σ : MS) (r o : Nat) (l : List Ent) : Prop := ∀ j, j < l.length → sI σ 29 (300 * r + o + j) = nI (trm (l.getD j (0, 0)).1) ∧ sI σ 30 (300 * r + o + j) = nI (l.getD j (0, 0)).2
theorem RMc.tl {σ : MS} {r o : Nat} {e : Ent} {l : List Ent} (h : RMc σ r o (e :: l)) : RMc σ r (o + 1) l := fun j hj => by
  have := h (j + 1) (by simp; omega)
  rw [show 300 * r + (o + 1) + j = 300 * r + o + (j + 1) by omega]
  simpa using this
theorem RMc.app {σ : MS} {r o : Nat} : ∀ {l l' : List Ent}, RMc σ r o (l ++ l') → RMc σ r o l ∧ RMc σ r (o + l.length) l' := fun {l l'} h =>
  ⟨fun j hj => by
    have := h j (by simp; omega)
    simp only [List.getD_eq_getElem?_getD, List.getElem?_append_left hj] at this ⊢
    exact this, fun j hj => by
    have := h (l.length + j) (by simp; omega)
    rw [show 300 * r + (o + l.length) + j = 300 * r + o + (l.length + j) by omega]
    simp only [List.getD_eq_getElem?_getD] at this ⊢
    rw [List.getElem?_append_right (by omega), Nat.add_sub_cancel_left] at this
    exact this⟩
theorem m_step {n r u o : Nat} {σ : MS} {J : Nat → Nat → Int64} {e : Ent} {l : List Ent} {env : Nat → Int64} {ts ts' : List Bool} {st : List Int64} (hr : r < 6) (hu : u ≤ 300) (hc : RMc σ r o (e :: l)) (ho : o < u) (ht : ty1 64 e ts = some ts') (hv : okV ts st) (hw : ∀ v, v < 12 → J 36 v = env v) (hs : stk J 37 st) (hl64 : st.length ≤ 64) :
    ∃ J', b_X12_answer_6 (n + 1) (nI r) (nI u) (nI st.length) (nI o) (jw σ J) = b_X12_answer_6 n (nI r) (nI u) (nI (ev1 env e st).length) (nI (o + 1)) (jw σ J') ∧ stk J' 37 (ev1 env e st) ∧ J' 36 = J 36 := by
  have hlen := okV_len _ _ hv
  obtain ⟨h2, hcase⟩ := ty1_inv ht
  obtain ⟨hc1, hc2⟩ := hc 0 (by simp)
  have hc1' : sI (jw σ J) 29 (300 * r + o) = nI (trm e.1) := hc1
  have hc2' : sI (jw σ J) 30 (300 * r + o) = nI e.2 := hc2
  have hidx : (300 : Int32) * nI r + nI o = nI (300 * r + o) := by rw [ln_mul, nI_add]
  have hin : inb (nI (300 * r + o)) 1800 := in_n (by omega) (by decide)
  rcases hcase with ⟨e0, hD, rfl⟩ | ⟨e1, hD, h12, rfl⟩ | ⟨e12, rr, rfl, rfl⟩ | ⟨g1, g2, g3, t1, t2, t, rr, rfl, rfl⟩
  · refine ⟨up2 J 37 st.length (lN e.2), ?_, ?_, ?_⟩
    · conv => lhs; unfold b_X12_answer_6
      rw [q_le (by omega) (by omega), if_neg (by omega), hidx, chk_t hin, chk_t hin, ix_n (by omega), hc1', hc2', e0, if_pos (by decide)]
      unfold b_X12_answer_53 b_X12_answer_77 b_X12_answer_147 ev1
      rw [if_pos (by decide), chk_t (in_n (by omega) (by decide)), if_pos e0, nI_l (by omega), nI_1, nI_1, ix_n (by omega)]
      rfl
    · unfold ev1
      rw [if_pos e0]
      exact ⟨up2_s _ _ _ _, stk_up st hs (Nat.le_refl _)⟩
    · exact up2_rowN _ _ _ (by decide)
  · refine ⟨up2 J 37 st.length (env e.2), ?_, ?_, ?_⟩
    · conv => lhs; unfold b_X12_answer_6
      rw [q_le (by omega) (by omega), if_neg (by omega), hidx, chk_t hin, chk_t hin, ix_n (by omega), hc1', hc2', e1, if_neg (by decide), if_pos (by decide)]
      unfold b_X12_answer_53 b_X12_answer_77 b_X12_answer_147 ev1
      have hx : sJ (jw σ J) 36 e.2 = env e.2 := hw _ h12
      rw [if_neg (by decide), chk_t (in_n h12 (by decide)), ix_n (n := e.2) (by omega), hx, chk_t (in_n (by omega) (by decide)), if_neg (by omega), if_pos e1, nI_1, nI_1, ix_n (by omega)]
      rfl
    · unfold ev1
      rw [if_neg (by omega), if_pos e1]
      exact ⟨up2_s _ _ _ _, stk_up st hs (Nat.le_refl _)⟩
    · exact up2_rowN _ _ _ (by decide)
  · match st, hv, hs, hlen, hl64 with
    | x :: s, hv, hs, hlen, hl64 =>
      have hll : s.length < 300 := by simp at hl64; omega
      refine ⟨up2 J 37 s.length (1 - x), ?_, ?_, ?_⟩
      · conv => lhs; unfold b_X12_answer_6
        rw [q_le (by omega) (by omega), if_neg (by omega), hidx, chk_t hin, chk_t hin, ix_n (by omega), hc1', hc2', e12, if_neg (by decide), if_neg (by decide), if_pos (by decide), List.length_cons, nI_pred, chk_t (in_n hll (by decide)), chk_t (in_n hll (by decide)), ix_n (by omega)]
        unfold b_X12_answer_147 ev1
        rw [if_neg (by omega), if_neg (by omega), if_pos e12, nI_1]
        have hx : sJ (jw σ J) 37 s.length = x := hs.1
        rw [hx]
        rfl
      · unfold ev1
        rw [if_neg (by omega), if_neg (by omega), if_pos e12]
        exact ⟨up2_s _ _ _ _, stk_up s hs.2 (Nat.le_refl _)⟩
      · exact up2_rowN _ _ _ (by decide)
  · match st, hv, hs, hlen, hl64 with
    | y :: x :: s, hv, hs, hlen, hl64 =>
      have hll : s.length + 1 < 300 := by simp at hl64; omega
      have hll2 : s.length < 300 := by omega
      have htr : trm e.1 ≠ 0 ∧ trm e.1 ≠ 1 ∧ trm e.1 ≠ 9 ∧ trm e.1 < 16 := by
        rcases (by omega : e.1 = 2 ∨ e.1 = 3 ∨ e.1 = 4 ∨ e.1 = 5 ∨ e.1 = 6 ∨ e.1 = 7 ∨ e.1 = 8 ∨ e.1 = 9 ∨ e.1 = 10 ∨ e.1 = 11 ∨ e.1 = 13 ∨ e.1 = 14) with h | h | h | h | h | h | h | h | h | h | h | h <;> rw [h] <;> decide
      refine ⟨up2 J 37 s.length (cmp e.1 x y), ?_, ?_, ?_⟩
      · conv => lhs; unfold b_X12_answer_6
        rw [q_le (by omega) (by omega), if_neg (by omega), hidx, chk_t hin, chk_t hin, ix_n (by omega), hc1', hc2', q_zero (by omega), if_neg htr.1, q_nl_eq (by omega) (by omega), if_neg htr.2.1, q_nl_eq (by omega) (by omega), if_neg htr.2.2.1, List.length_cons, List.length_cons, pk_m1, nI_pred, chk_t (in_n hll2 (by decide)), chk_t (in_n hll (by decide)), ix_n (by omega), ix_n (by omega), m_both g1 g2 g3, bnd, chk_t (in_n hll2 (by decide))]
        unfold b_X12_answer_147 ev1
        rw [if_neg (by omega), if_neg (by omega), if_neg (by omega), nI_1]
        have hx : sJ (jw σ J) 37 s.length = x := hs.2.1
        have hy : sJ (jw σ J) 37 (s.length + 1) = y := hs.1
        rw [hx, hy]
        rfl
      · unfold ev1
        rw [if_neg (by omega), if_neg (by omega), if_neg (by omega)]
        exact ⟨up2_s _ _ _ _, stk_up s hs.2.2 (Nat.le_refl _)⟩
      · exact up2_rowN _ _ _ (by decide)
theorem m_run {r u : Nat} {σ : MS} {env : Nat → Int64} (hr : r < 6) (hu : u ≤ 300) : ∀ (l : List Ent) (n o : Nat) (J : Nat → Nat → Int64) (ts ts' : List Bool) (st : List Int64), RMc σ r o l → o + l.length = u → l.length < n → tys 64 l ts = some ts' → okV ts st → (∀ v, v < 12 → J 36 v = env v) → stk J 37 st → st.length ≤ 64 →
    ∃ J', b_X12_answer_6 n (nI r) (nI u) (nI st.length) (nI o) (jw σ J) = some (J' 37 0, jw σ J') ∧ stk J' 37 (evs env l st) ∧ J' 36 = J 36
  | [], n, o, J, ts, ts', st, hc, ho, hn, ht, hv, hw, hs, hl => by
    obtain ⟨n, rfl⟩ : ∃ m, n = m + 1 := ⟨n - 1, by simp at hn; omega⟩
    refine ⟨J, ?_, hs, rfl⟩
    unfold b_X12_answer_6
    rw [q_le (by simp at ho; omega) (by simp at ho; omega), if_pos (by simp at ho; omega)]
    rfl
  | e :: l, n, o, J, ts, ts', st, hc, ho, hn, ht, hv, hw, hs, hl => by
    obtain ⟨n, rfl⟩ : ∃ m, n = m + 1 := ⟨n - 1, by simp at hn; omega⟩
    unfold tys at ht
    cases h : ty1 64 e ts with
    | none => rw [h] at ht; cases ht
    | some t =>
      rw [h] at ht
      simp at ho hn
      obtain ⟨J1, e1, s1, w1⟩ := m_step (n := n) (u := u) hr hu hc (by omega) h hv hw hs hl
      have hv' := ev1_ok env h hv
      have hl' : (ev1 env e st).length ≤ 64 := by
        rw [okV_len _ _ hv']
        exact ty1_len h (by rw [← okV_len _ _ hv]; exact hl)
      obtain ⟨J2, e2, s2, w2⟩ := m_run (env := env) hr hu l n (o + 1) J1 t ts' (ev1 env e st) hc.tl (by omega) (by omega) ht hv' (fun v hv => by rw [w1]; exact hw v hv) s1 hl'
      exact ⟨J2, e1.trans e2, s2, w2.trans w1⟩
/-- a rule's clauses in the reference's memory -/
def RMr (σ : MS) (r : Nat) (R : List Cls) : Prop := R.length ≤ 12 ∧ sI σ 31 r = nI R.length ∧ ∀ c, c < R.length → ∃ o, sI σ 32 (12 * r + c) = nI o ∧ sI σ 33 (12 * r + c) = nI (o + (R.getD c ([], [])).1.length) ∧ sI σ 34 (12 * r + c) = nI (o + (R.getD c ([], [])).1.length + (R.getD c ([], [])).2.length) ∧ o + (R.getD c ([], [])).1.length + (R.getD c ([], [])).2.length ≤ 300 ∧ RMc σ r o ((R.getD c ([], [])).1 ++ (R.getD c ([], [])).2)
theorem m_answer {r o : Nat} {σ : MS} {l : List Ent} {env : Nat → Int64} {J : Nat → Nat → Int64} {t : Bool} (hr : r < 6) (ho : o + l.length ≤ 300) (hc : RMc σ r o l) (ht : tys 50 l [] = some [t]) (hw : ∀ v, v < 12 → J 36 v = env v) : ∃ J' v, f_X12_answer (nI r) (nI o) (nI (o + l.length)) (jw σ J) = some (v, jw σ J') ∧ evs env l [] = [v] ∧ J' 36 = J 36 := by
  obtain ⟨v, hv, _⟩ := okV1 (evs_ok env l ht (st := []) trivial)
  obtain ⟨J', e, s, w⟩ := m_run (u := o + l.length) (env := env) hr (by omega) l FU o J [] [t] [] hc rfl (by have := FU_big; omega) (tys_wide (by decide) l ht) trivial hw trivial (by simp)
  rw [hv] at s
  refine ⟨J', v, ?_, hv, w⟩
  have h0 : J' 37 0 = v := s.1
  rw [h0] at e
  exact e
theorem m_wanted_loop {r : Nat} {σ : MS} {R0 : List Cls} {env : Nat → Int64} (hr : r < 6) (hR0 : RMr σ r R0) : ∀ (R : List Cls) (c n : Nat) (J : Nat → Nat → Int64), R0.drop c = R → c + R.length = R0.length → R.length < n → WR R → (∀ v, v < 12 → J 36 v = env v) →
    ∃ J', b_X12_wanted_13 n (nI r) (nI (12 * r + c)) (jw σ J) = some (takeR env R, jw σ J')
  | [], c, n, J, hd, hc, hn, _, hw => by
    obtain ⟨n, rfl⟩ : ∃ m, n = m + 1 := ⟨n - 1, by simp at hn; omega⟩
    obtain ⟨g1, g2, g3⟩ := hR0
    have g2' : sI (jw σ J) 31 r = nI R0.length := g2
    refine ⟨J, ?_⟩
    unfold b_X12_wanted_13
    simp at hc
    rw [chk_t (in_n hr (by decide)), ix_n (by omega), g2', ln_mul, nI_add, q_le (by omega) (by omega), if_pos (by omega)]
    rfl
  | cl :: R, c, n, J, hd, hc, hn, hR, hw => by
    obtain ⟨n, rfl⟩ : ∃ m, n = m + 1 := ⟨n - 1, by simp at hn; omega⟩
    obtain ⟨g1, g2, g3⟩ := hR0
    simp at hc hn
    have hcl : R0.getD c ([], []) = cl := by
      have : (R0.drop c)[0]? = some cl := by rw [hd]; rfl
      rw [List.getElem?_drop, Nat.add_zero] at this
      simp [List.getD, this]
    obtain ⟨o, k1, k2, k3, k4, k5⟩ := g3 c (by omega)
    rw [hcl] at k2 k3 k4 k5
    have g2' : sI (jw σ J) 31 r = nI R0.length := g2
    have k1' : ∀ J, sI (jw σ J) 32 (12 * r + c) = nI o := fun _ => k1
    have k2' : ∀ J, sI (jw σ J) 33 (12 * r + c) = nI (o + cl.1.length) := fun _ => k2
    have k3' : sI (jw σ J) 34 (12 * r + c) = nI (o + cl.1.length + cl.2.length) := k3
    have hin : inb (nI (12 * r + c)) 72 := in_n (by omega) (by decide)
    obtain ⟨h1, h2⟩ := hR cl (by simp)
    obtain ⟨q1, q2⟩ := k5.app
    have last : ∀ J1, (∀ v, v < 12 → J1 36 v = env v) → ∃ J', b_X12_wanted_65 (nI r) (nI (12 * r + c)) (jw σ J1) = some ((evs env cl.1 []).headD 0, jw σ J') := fun J1 hw1 => by
      obtain ⟨J2, v, e2, hv, _⟩ := m_answer (env := env) hr (by omega) q1 h1 hw1
      refine ⟨J2, ?_⟩
      unfold b_X12_wanted_65
      rw [chk_t hin, chk_t hin, ix_n (by omega), k1', k2', e2, hv]
      rfl
    conv => rhs; unfold takeR
    unfold b_X12_wanted_13
    rw [chk_t (in_n hr (by decide)), ix_n (by omega), g2', ln_mul, nI_add, q_le (by omega) (by omega), if_neg (by omega), chk_t hin, chk_t hin, ix_n (by omega), k2', k3', q_eq (by omega) (by omega)]
    by_cases hne : cl.2 = []
    · obtain ⟨J', e'⟩ := last J hw
      refine ⟨J', ?_⟩
      rw [if_pos (by rw [hne]; rfl), if_pos (Or.inl hne)]
      exact e'
    · have hlp : 0 < cl.2.length := by
        cases h : cl.2 with
        | nil => exact absurd h hne
        | cons _ _ => simp
      obtain ⟨J1, v, e1, hv, w1⟩ := m_answer (env := env) hr (by omega) q2 (h2.resolve_left hne) hw
      have hw1 : ∀ v, v < 12 → J1 36 v = env v := fun v hv => by rw [w1]; exact hw v hv
      rw [if_neg (by omega), chk_t hin, chk_t hin, e1, bnd, hv]
      by_cases h1v : v = 1
      · obtain ⟨J', e'⟩ := last J1 hw1
        refine ⟨J', ?_⟩
        rw [if_pos ((lg_cmp_eq v 1).mpr h1v), if_pos (show cl.2 = [] ∨ [v].headD 0 = 1 from Or.inr h1v)]
        exact e'
      · obtain ⟨J', e'⟩ := m_wanted_loop hr ⟨g1, g2, g3⟩ R (c + 1) n J1 (by rw [← List.drop_drop, hd]; rfl) (by omega) (by omega) (fun c hc => hR c (List.mem_cons_of_mem _ hc)) hw1
        refine ⟨J', ?_⟩
        rw [if_neg (fun h => h1v ((lg_cmp_eq v 1).mp h)), if_neg (show ¬ (cl.2 = [] ∨ [v].headD 0 = 1) from fun h => h.elim hne h1v), nI_1]
        exact e'
theorem m_wanted {r : Nat} {σ : MS} {R : List Cls} {env : Nat → Int64} {J : Nat → Nat → Int64} (hr : r < 6) (hR0 : RMr σ r R) (hf : sI σ 1 9 = nI r) (hR : WR R) (hw : ∀ v, v < 12 → J 36 v = env v) : ∃ J', f_X12_wanted (jw σ J) = some (takeR env R, jw σ J') := by
  unfold f_X12_wanted b_X12_wanted_0
  have hf' : sI (jw σ J) 1 9 = nI r := hf
  rw [hf', ln_mul]
  exact m_wanted_loop hr hR0 R 0 FU J rfl (by omega) (by have := FU_big; have := hR0.1; omega) hR hw
end
