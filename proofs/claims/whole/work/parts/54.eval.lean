/-! ===== pure: both stack machines ===== -/
section
theorem onr_s {β : Type} (b : Nat) (E1 : Option β) (E2 : Nat → Option β) : onr (some b) E1 E2 = E2 b := rfl
theorem onr_n {β : Type} (E1 : Option β) (E2 : Nat → Option β) : onr none E1 E2 = E1 := rfl
def encX (e : Ent) : Int32 := nI (e.1 + 32 * e.2)
theorem enc_op {e : Ent} (h1 : e.1 < 32) (h2 : e.2 < 100000) : encX e &&& (31 : Int32) = nI e.1 := by
  unfold encX
  rw [pk_andN (by omega) 5 (by decide)]
  congr 1
  omega
theorem enc_val {e : Ent} (h1 : e.1 < 32) (h2 : e.2 < 100000) : encX e >>> ((5 : Int32) &&& 31) = nI e.2 := by
  unfold encX
  rw [pk_shrN (by omega) _ 5 (by decide)]
  congr 1
  omega
theorem ty1_inv {D : Nat} {e : Ent} {ts ts' : List Bool} (ht : ty1 D e ts = some ts') : e.2 < 100000 ∧ ((e.1 = 0 ∧ ts.length < D ∧ ts' = false :: ts) ∨ (e.1 = 1 ∧ ts.length < D ∧ e.2 < 12 ∧ ts' = false :: ts) ∨ (e.1 = 12 ∧ ∃ r, ts = true :: r ∧ ts' = true :: r) ∨ (2 ≤ e.1 ∧ e.1 ≤ 14 ∧ e.1 ≠ 12 ∧ ∃ t1 t2 t r, ts = t1 :: t2 :: r ∧ ts' = t :: r)) := by
  unfold ty1 at ht
  split at ht
  · rename_i hv
    refine ⟨hv, ?_⟩
    by_cases h0 : e.1 = 0
    · rw [if_pos h0] at ht
      split at ht
      · rename_i hl; cases ht; exact Or.inl ⟨h0, hl, rfl⟩
      · cases ht
    rw [if_neg h0] at ht
    by_cases h1 : e.1 = 1
    · rw [if_pos h1] at ht
      split at ht
      · rename_i hl; cases ht; exact Or.inr (Or.inl ⟨h1, hl.1, hl.2, rfl⟩)
      · cases ht
    rw [if_neg h1] at ht
    by_cases h2 : e.1 = 12
    · rw [if_pos h2] at ht
      split at ht
      · cases ht; exact Or.inr (Or.inr (Or.inl ⟨h2, _, rfl, rfl⟩))
      · cases ht
    rw [if_neg h2] at ht
    refine Or.inr (Or.inr (Or.inr ?_))
    by_cases h3 : e.1 ≤ 6
    · rw [if_pos h3] at ht
      split at ht
      · cases ht; exact ⟨by omega, by omega, h2, _, _, _, _, rfl, rfl⟩
      · cases ht
    rw [if_neg h3] at ht
    by_cases h4 : e.1 ≤ 11
    · rw [if_pos h4] at ht
      split at ht
      · cases ht; exact ⟨by omega, by omega, h2, _, _, _, _, rfl, rfl⟩
      · cases ht
    rw [if_neg h4] at ht
    by_cases h5 : e.1 ≤ 14
    · rw [if_pos h5] at ht
      split at ht
      · cases ht; exact ⟨by omega, by omega, h2, _, _, _, _, rfl, rfl⟩
      · cases ht
    rw [if_neg h5] at ht
    cases ht
  · cases ht
/-- a rule's codes in the class's memory -/
def RXc (σ : MS) (b : Nat) (cs : List Ent) : Prop := okRule σ b ∧ (sS σ (b + 1)).2 = cs.length ∧ cs.length ≤ 500 ∧ ∀ i, i < cs.length → sI σ (b + 1) i = encX (cs.getD i (0, 0))
/-- one step of the class's machine up to the choice of what is done -/
theorem x_at {a b n w q t i : Nat} {σ : MS} {J : Nat → Nat → Int64} {cs : List Ent} {e : Ent} (hb : sR σ 44 2 = some b) (hc : RXc σ b cs) (hi : i < cs.length) (he : cs.getD i (0, 0) = e) (h1 : e.1 < 32) (h2 : e.2 < 100000) :
    b_X1_sumFor_6 a (n + 1) (nI w) (nI q) (nI t) (nI i) (jw σ J) = (if nI e.1 = 0 then b_X1_sumFor_59 a (b_X1_sumFor_6 a n) (nI w) (nI q) (nI t) (nI i) (nI e.1) (nI e.2) (jw σ J) else (if nI e.1 = (1 : Int32) then b_X1_sumFor_59 a (b_X1_sumFor_6 a n) (nI w) (nI q) (nI t) (nI i) (nI e.1) (nI e.2) (jw σ J) else (if nI e.1 = (12 : Int32) then (if nI t < (1 : Int32) then b_X1_sumFor_135 a (b_X1_sumFor_6 a n) (nI w) (nI q) (nI t) (nI i) (nI e.1) (jw σ J) else chk (inb (nI t - (1 : Int32)) 64) (chk (inb (nI t - (1 : Int32)) 64) (b_X1_sumFor_242 a (b_X1_sumFor_6 a n) (nI w) (nI q) (nI t) (nI i) (wJ (jw σ J) 45 (ix (nI t - (1 : Int32))) ((1 : Int64) - (sJ (jw σ J) 45 (ix (nI t - (1 : Int32))))))))) else b_X1_sumFor_135 a (b_X1_sumFor_6 a n) (nI w) (nI q) (nI t) (nI i) (nI e.1) (jw σ J)))) := by
  obtain ⟨hok, hl, hm, hcs⟩ := hc
  have hb' : sR (jw σ J) 44 2 = some b := hb
  have hok' : okRule (jw σ J) b := hok
  have hl' : (sS (jw σ J) (b + 1)).2 = cs.length := hl
  have hn : ¬ (Int32.ofNat cs.length ≤ nI i) := nI_ge hi (by omega)
  have hin : inb (nI i) cs.length := in_n hi (by omega)
  have hcode : sI (jw σ J) (b + 1) i = encX e := by rw [← he]; exact hcs i hi
  conv => lhs; unfold b_X1_sumFor_6
  rw [hb', onr_s, chk_t hok', hl', if_neg hn, onr_s, chk_t hok', hl', chk_t hin, onr_s, chk_t hok', hl', chk_t hin, ix_n (by omega), hcode, enc_op h1 h2, enc_val h1 h2]
theorem x_step {a b n w q i : Nat} {σ : MS} {J : Nat → Nat → Int64} {cs : List Ent} {e : Ent} {env : Nat → Int64} {ts ts' : List Bool} {st : List Int64} (hb : sR σ 44 2 = some b) (hc : RXc σ b cs) (hi : i < cs.length) (he : cs.getD i (0, 0) = e) (ht : ty1 64 e ts = some ts') (hv : okV ts st) (hw : ∀ v J, v < 12 → f_X1_wordOf (nI v) a (nI w) (nI q) (jw σ J) = some (env v)) (hs : stk J 45 st) (hl64 : st.length ≤ 64) :
    ∃ J', b_X1_sumFor_6 a (n + 1) (nI w) (nI q) (nI st.length) (nI i) (jw σ J) = b_X1_sumFor_6 a n (nI w) (nI q) (nI (ev1 env e st).length) (nI (i + 1)) (jw σ J') ∧ stk J' 45 (ev1 env e st) := by
  have hlen := okV_len _ _ hv
  obtain ⟨h2, hcase⟩ := ty1_inv ht
  have h1 : e.1 < 32 := by rcases hcase with h | h | h | h <;> omega
  rw [x_at hb hc hi he h1 h2]
  rcases hcase with ⟨e0, hD, rfl⟩ | ⟨e1, hD, h12, rfl⟩ | ⟨e12, r, rfl, rfl⟩ | ⟨g1, g2, g3, t1, t2, t, r, rfl, rfl⟩
  · refine ⟨up2 J 45 st.length (lN e.2), ?_, ?_⟩
    · rw [e0, if_pos (by decide)]
      unfold b_X1_sumFor_59 b_X1_sumFor_92 b_X1_sumFor_242 ev1
      rw [q_ln_le (by omega) (by omega), if_neg (by omega), if_pos (by decide), chk_t (in_n (by omega) (by decide)), if_pos e0, nI_l (by omega), nI_1, nI_1, ix_n (by omega)]
      rfl
    · unfold ev1
      rw [if_pos e0]
      exact ⟨up2_s _ _ _ _, stk_up st hs (Nat.le_refl _)⟩
  · refine ⟨up2 J 45 st.length (env e.2), ?_, ?_⟩
    · rw [e1, if_neg (by decide), if_pos (by decide)]
      unfold b_X1_sumFor_59 b_X1_sumFor_92 b_X1_sumFor_242 ev1
      rw [q_ln_le (by omega) (by omega), if_neg (by omega), if_neg (by decide), hw _ _ h12, bnd, chk_t (in_n (by omega) (by decide)), if_neg (by omega), if_pos e1, nI_1, nI_1, ix_n (by omega)]
      rfl
    · unfold ev1
      rw [if_neg (by omega), if_pos e1]
      exact ⟨up2_s _ _ _ _, stk_up st hs (Nat.le_refl _)⟩
  · match st, hv, hs, hlen, hl64 with
    | x :: s, hv, hs, hlen, hl64 =>
      have hll : s.length < 64 := by simp at hl64; omega
      refine ⟨up2 J 45 s.length (1 - x), ?_, ?_⟩
      · rw [e12, if_neg (by decide), if_neg (by decide), if_pos (by decide), List.length_cons, q_nl_lt (by omega) (by omega), if_neg (by omega), nI_pred, chk_t (in_n hll (by decide)), chk_t (in_n hll (by decide)), ix_n (by omega)]
        unfold b_X1_sumFor_242 ev1
        rw [if_neg (by omega), if_neg (by omega), if_pos e12, nI_1]
        have hx : sJ (jw σ J) 45 s.length = x := hs.1
        rw [hx]
        rfl
      · unfold ev1
        rw [if_neg (by omega), if_neg (by omega), if_pos e12]
        exact ⟨up2_s _ _ _ _, stk_up s hs.2 (Nat.le_refl _)⟩
  · match st, hv, hs, hlen, hl64 with
    | y :: x :: s, hv, hs, hlen, hl64 =>
      have hll : s.length + 1 < 64 := by simp at hl64; omega
      have hll2 : s.length < 64 := by omega
      have e2 : nI (s.length + 1 + 1) - (2 : Int32) = nI s.length := (pk_sub (a := s.length + 2) (b := 2) (by omega)).trans (congrArg nI (by omega))
      have e3 : nI (s.length + 1 + 1) - (1 : Int32) = nI (s.length + 1) := nI_pred _
      refine ⟨up2 J 45 s.length (cmp e.1 x y), ?_, ?_⟩
      · rw [q_zero (by omega), if_neg (by omega), q_nl_eq (by omega) (by omega), if_neg (by omega), q_nl_eq (by omega) (by omega), if_neg (by omega)]
        unfold b_X1_sumFor_135 b_X1_sumFor_158 b_X1_sumFor_201 b_X1_sumFor_242 ev1
        rw [q_nl_eq (by omega) (by omega), if_neg (by omega), q_nl_eq (by omega) (by omega), if_neg (by omega), List.length_cons, List.length_cons, q_nl_lt (by omega) (by omega), if_neg (by omega), e2, e3, chk_t (in_n hll2 (by decide)), chk_t (in_n hll (by decide)), ix_n (by omega), ix_n (by omega), x_compute, bnd, chk_t (in_n hll2 (by decide)), pk_m1, nI_1]
        rw [if_neg (by omega), if_neg (by omega), if_neg (by omega)]
        have hx : sJ (jw σ J) 45 s.length = x := hs.2.1
        have hy : sJ (jw σ J) 45 (s.length + 1) = y := hs.1
        rw [hx, hy]
        rfl
      · unfold ev1
        rw [if_neg (by omega), if_neg (by omega), if_neg (by omega)]
        exact ⟨up2_s _ _ _ _, stk_up s hs.2.2 (Nat.le_refl _)⟩
theorem getD_mid {α : Type} (d : α) (pre post : List α) (e : α) : (pre ++ e :: post).getD pre.length d = e := by
  simp [List.getD]
theorem ty1_len {D : Nat} {e : Ent} {ts ts' : List Bool} (ht : ty1 D e ts = some ts') (h : ts.length ≤ D) : ts'.length ≤ D := by
  obtain ⟨_, h1 | h1 | h1 | h1⟩ := ty1_inv ht
  · obtain ⟨_, h2, rfl⟩ := h1; simp; omega
  · obtain ⟨_, h2, _, rfl⟩ := h1; simp; omega
  · obtain ⟨_, r, rfl, rfl⟩ := h1; exact h
  · obtain ⟨_, _, _, t1, t2, t, r, rfl, rfl⟩ := h1; simp at h ⊢; omega
theorem x_run {a b n w q : Nat} {σ : MS} {cs post : List Ent} {env : Nat → Int64} (hb : sR σ 44 2 = some b) (hc : RXc σ b cs) (hw : ∀ v J, v < 12 → f_X1_wordOf (nI v) a (nI w) (nI q) (jw σ J) = some (env v)) : ∀ (l pre : List Ent) (J : Nat → Nat → Int64) (ts ts' : List Bool) (st : List Int64), cs = pre ++ (l ++ post) → tys 64 l ts = some ts' → okV ts st → stk J 45 st → st.length ≤ 64 →
    ∃ J', b_X1_sumFor_6 a (n + l.length) (nI w) (nI q) (nI st.length) (nI pre.length) (jw σ J) = b_X1_sumFor_6 a n (nI w) (nI q) (nI (evs env l st).length) (nI (pre ++ l).length) (jw σ J') ∧ stk J' 45 (evs env l st)
  | [], pre, J, ts, ts', st, hcs, ht, hv, hs, hl => ⟨J, by simp [evs], hs⟩
  | e :: l, pre, J, ts, ts', st, hcs, ht, hv, hs, hl => by
    unfold tys at ht
    cases h : ty1 64 e ts with
    | none => rw [h] at ht; cases ht
    | some t =>
      rw [h] at ht
      have hi : pre.length < cs.length := by rw [hcs]; simp
      have hg : cs.getD pre.length (0, 0) = e := by rw [hcs]; exact getD_mid _ _ _ _
      obtain ⟨J1, e1, s1⟩ := x_step (n := n + l.length) hb hc hi hg h hv hw hs hl
      have hv' := ev1_ok env h hv
      have hl' : (ev1 env e st).length ≤ 64 := by
        rw [okV_len _ _ hv']
        exact ty1_len h (by rw [← okV_len _ _ hv]; exact hl)
      obtain ⟨J2, e2, s2⟩ := x_run (post := post) hb hc hw l (pre ++ [e]) J1 t ts' (ev1 env e st) (by rw [hcs]; simp) ht hv' s1 hl'
      refine ⟨J2, ?_, s2⟩
      rw [show n + (e :: l).length = n + l.length + 1 by simp; omega, e1]
      have e3 : pre.length + 1 = (pre ++ [e]).length := by simp
      rw [e3, e2]
      simp [evs]
/-- a rule: its clauses -/
def cod1 (c : Cls) : List Ent := c.1 ++ (c.2 ++ [(if c.2 = [] then 16 else 17, 0)])
def codesOf : List Cls → List Ent
  | [] => []
  | c :: R => cod1 c ++ codesOf R
def takeR (env : Nat → Int64) : List Cls → Int64
  | [] => 0
  | c :: R => if c.2 = [] ∨ (evs env c.2 []).headD 0 = 1 then (evs env c.1 []).headD 0 else takeR env R
def WR (R : List Cls) : Prop := ∀ c, c ∈ R → tys 50 c.1 [] = some [false] ∧ (c.2 = [] ∨ tys 50 c.2 [] = some [true])
theorem ty1_wide {D D' : Nat} {e : Ent} {ts ts' : List Bool} (hD : D ≤ D') (ht : ty1 D e ts = some ts') : ty1 D' e ts = some ts' := by
  unfold ty1 at ht ⊢
  split at ht
  · rename_i hv
    rw [if_pos hv]
    by_cases h0 : e.1 = 0
    · rw [if_pos h0] at ht ⊢
      split at ht
      · rename_i hl; rw [if_pos (by omega)]; exact ht
      · cases ht
    rw [if_neg h0] at ht ⊢
    by_cases h1 : e.1 = 1
    · rw [if_pos h1] at ht ⊢
      split at ht
      · rename_i hl; rw [if_pos (by omega)]; exact ht
      · cases ht
    rw [if_neg h1] at ht ⊢
    exact ht
  · cases ht
theorem tys_wide {D D' : Nat} (hD : D ≤ D') : ∀ (l : List Ent) {ts ts' : List Bool}, tys D l ts = some ts' → tys D' l ts = some ts'
  | [], _, _, ht => ht
  | e :: l, ts, ts', ht => by
    unfold tys at ht ⊢
    cases h : ty1 D e ts with
    | none => rw [h] at ht; cases ht
    | some t =>
      rw [h] at ht
      rw [ty1_wide hD h]
      exact tys_wide hD l ht
theorem okV1 {t : Bool} {st : List Int64} (h : okV [t] st) : ∃ v, st = [v] ∧ (t = true → v = 0 ∨ v = 1) := by
  match st, h with
  | [v], h => exact ⟨v, rfl, h.1⟩
theorem x_rule {a b w q : Nat} {σ : MS} {cs : List Ent} {env : Nat → Int64} (hb : sR σ 44 2 = some b) (hc : RXc σ b cs) (hw : ∀ v J, v < 12 → f_X1_wordOf (nI v) a (nI w) (nI q) (jw σ J) = some (env v)) : ∀ (R : List Cls) (pre : List Ent) (J : Nat → Nat → Int64) (n : Nat), WR R → cs = pre ++ codesOf R → (codesOf R).length < n →
    ∃ J', b_X1_sumFor_6 a n (nI w) (nI q) (nI 0) (nI pre.length) (jw σ J) = some (takeR env R, jw σ J')
  | [], pre, J, n, _, hcs, hn => by
    obtain ⟨n, rfl⟩ : ∃ m, n = m + 1 := ⟨n - 1, by simp [codesOf] at hn; omega⟩
    obtain ⟨hok, hl, hm, _⟩ := hc
    have hb' : sR (jw σ J) 44 2 = some b := hb
    have hok' : okRule (jw σ J) b := hok
    have hl' : (sS (jw σ J) (b + 1)).2 = cs.length := hl
    have hcl : cs.length = pre.length := by rw [hcs]; simp [codesOf]
    refine ⟨J, ?_⟩
    unfold b_X1_sumFor_6
    rw [hb', onr_s, chk_t hok', hl', if_pos (show Int32.ofNat cs.length ≤ nI pre.length from nI_le (by omega) (by omega))]
    rfl
  | c :: R, pre, J, n, hR, hcs, hn => by
    obtain ⟨h1, h2⟩ := hR c (by simp)
    have hlen : (codesOf (c :: R)).length = c.1.length + c.2.length + 1 + (codesOf R).length := by simp [codesOf, cod1]; omega
    obtain ⟨n, rfl⟩ : ∃ m, n = m + 1 + c.2.length + c.1.length := ⟨n - 1 - c.2.length - c.1.length, by omega⟩
    have hcs1 : cs = pre ++ (c.1 ++ (c.2 ++ ((if c.2 = [] then 16 else 17, 0) :: codesOf R))) := by rw [hcs]; simp [codesOf, cod1]
    obtain ⟨J1, r1, s1⟩ := x_run (n := n + 1 + c.2.length) hb hc hw c.1 pre J [] [false] [] hcs1 (tys_wide (by decide) _ h1) trivial trivial (by simp)
    obtain ⟨v, hv, _⟩ := okV1 (evs_ok env c.1 h1 (st := []) trivial)
    rw [List.length_nil] at r1
    rw [hv] at r1 s1
    rw [r1]
    rcases h2 with h2 | h2
    · have hi : (pre ++ c.1).length < cs.length := by rw [hcs1, h2]; simp
      have hg : cs.getD (pre ++ c.1).length (0, 0) = (16, 0) := by rw [hcs1, h2, if_pos rfl, List.nil_append, ← List.append_assoc]; exact getD_mid _ _ _ _
      refine ⟨J1, ?_⟩
      have hln : [v].length = 1 := rfl
      rw [hln, h2, List.length_nil, Nat.add_zero, x_at hb hc hi hg (by decide) (by decide), if_neg (by decide), if_neg (by decide), if_neg (by decide)]
      unfold b_X1_sumFor_135 takeR
      rw [if_pos (by decide), if_neg (by decide), chk_t (by decide), if_pos (Or.inl h2), hv]
      have hx : sJ (jw σ J1) 45 0 = v := s1.1
      rw [show ix (nI 1 - 1) = 0 from by decide, hx]
      rfl
    · have hne : ¬ c.2 = [] := by
        intro h3; rw [h3] at h2; cases h2
      rw [if_neg hne] at hcs1
      have h3 : tys 64 c.2 ([] ++ [false]) = some ([true] ++ [false]) := tys_wide (by decide) _ (tys_more [false] c.2 h2)
      obtain ⟨J2, r2, s2⟩ := x_run (n := n + 1) (post := (17, 0) :: codesOf R) hb hc hw c.2 (pre ++ c.1) J1 _ _ [v] (by rw [hcs1]; simp) h3 ⟨fun h => absurd h (by decide), trivial⟩ s1 (by simp)
      obtain ⟨u, hu, hu01⟩ := okV1 (evs_ok env c.2 h2 (st := []) trivial)
      have he2 : evs env c.2 [v] = [u, v] := by
        have := evs_more env [v] c.2 h2 (st := []) trivial
        rw [List.nil_append] at this
        rw [this, hu]; rfl
      rw [he2] at r2 s2
      rw [r2]
      have hi : (pre ++ c.1 ++ c.2).length < cs.length := by rw [hcs1]; simp
      have hg : cs.getD (pre ++ c.1 ++ c.2).length (0, 0) = (17, 0) := by
        have : cs = (pre ++ c.1 ++ c.2) ++ (17, 0) :: codesOf R := by rw [hcs1]; simp
        rw [this]; exact getD_mid _ _ _ _
      have hu1 : sJ (jw σ J2) 45 1 = u := s2.1
      have hv0 : sJ (jw σ J2) 45 0 = v := s2.2.1
      have hln : [u, v].length = 2 := rfl
      rw [hln, x_at hb hc hi hg (by decide) (by decide), if_neg (by decide), if_neg (by decide), if_neg (by decide)]
      unfold b_X1_sumFor_135 b_X1_sumFor_158 takeR
      rw [if_neg (by decide), if_pos (by decide), if_neg (by decide), chk_t (by decide), show ix (nI 2 - 1) = 1 from by decide, show ix (nI 2 - 2) = 0 from by decide, hu1, hv0, hu, hv]
      rcases hu01 rfl with rfl | rfl
      · rw [if_pos (by decide), if_neg (by simp [hne])]
        unfold b_X1_sumFor_242
        have hcs2 : cs = (pre ++ c.1 ++ c.2 ++ [(17, 0)]) ++ codesOf R := by rw [hcs1]; simp
        obtain ⟨J3, r3⟩ := x_rule hb hc hw R (pre ++ c.1 ++ c.2 ++ [(17, 0)]) J2 n (fun c hc => hR c (List.mem_cons_of_mem _ hc)) hcs2 (by omega)
        refine ⟨J3, ?_⟩
        rw [← r3, nI_1]
        congr 1
        simp [Nat.add_assoc]
      · refine ⟨J2, ?_⟩
        rw [if_neg (by decide), chk_t (by decide), if_pos (show c.2 = [] ∨ ([1] : List Int64).headD 0 = 1 from Or.inr rfl)]
        rfl
end
