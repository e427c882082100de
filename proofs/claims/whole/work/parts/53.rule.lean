/-! ===== pure: what a rule takes ===== -/
section
abbrev Ent : Type := Nat × Nat
abbrev Cls : Type := List Ent × List Ent
/-- the reference's number of an operation -/
def trm (op : Nat) : Nat := [0, 1, 13, 14, 15, 2, 3, 4, 5, 6, 7, 8, 9, 10, 11].getD op 0
def cmp (op : Nat) (a b : Int64) : Int64 := (f_X6_compute (nI op) a b).getD 0
theorem chk_dv (a b : Int64) (E : Option Int64) (h : ¬ (lg_cmp b 0) = 0) : chk (¬ b = 0) E = E := chk_t (fun e => h ((lg_cmp_eq b 0).mpr e)) E
theorem is_ite {c : Prop} {d : Decidable c} {a b : Option Int64} (ha : a.isSome = true) (hb : b.isSome = true) : (@ite _ c d a b).isSome = true := by
  by_cases h : c
  · rw [if_pos h]; exact ha
  · rw [if_neg h]; exact hb
theorem x_comp_some (x : Int32) (a b : Int64) : (f_X6_compute x a b).isSome = true := by
  unfold f_X6_compute b_X6_compute_0 b_X6_compute_163 b_X6_compute_151 b_X6_compute_139 b_X6_compute_127 b_X6_compute_115 b_X6_compute_95 b_X6_compute_81
  by_cases hz : (lg_cmp b 0) = 0
  · simp only [hz, if_true]
    repeat' (first | exact rfl | apply is_ite)
  · simp only [hz, if_false, chk_dv a b _ hz]
    repeat' (first | exact rfl | apply is_ite)
theorem x_compute (op : Nat) (a b : Int64) : f_X6_compute (nI op) a b = some (cmp op a b) := by
  have h := x_comp_some (nI op) a b
  unfold cmp
  cases h2 : f_X6_compute (nI op) a b with
  | none => rw [h2] at h; cases h
  | some v => rfl
theorem m_both {op : Nat} (h1 : 2 ≤ op) (h2 : op ≤ 14) (h3 : op ≠ 12) (a b : Int64) : f_X12_both (nI (trm op)) a b = some (cmp op a b) := by
  rw [← x_compute]
  unfold f_X6_compute b_X6_compute_0 b_X6_compute_163 b_X6_compute_151 b_X6_compute_139 b_X6_compute_127 b_X6_compute_115 b_X6_compute_95 b_X6_compute_81
  unfold f_X12_both b_X12_both_0 b_X12_both_183 b_X12_both_168 b_X12_both_153 b_X12_both_138 b_X12_both_123 b_X12_both_111 b_X12_both_97 f_X12_truth b_X12_truth_0 b_X12_truth_9
  rcases (by omega : op = 2 ∨ op = 3 ∨ op = 4 ∨ op = 5 ∨ op = 6 ∨ op = 7 ∨ op = 8 ∨ op = 9 ∨ op = 10 ∨ op = 11 ∨ op = 13 ∨ op = 14) with e | e | e | e | e | e | e | e | e | e | e | e <;> subst e <;> simp (decide := true) only [if_true, if_false] <;> (try rfl) <;> (repeat' split) <;> rfl
/-- one entry -/
def ev1 (env : Nat → Int64) (e : Ent) (st : List Int64) : List Int64 :=
  if e.1 = 0 then lN e.2 :: st
  else if e.1 = 1 then env e.2 :: st
  else if e.1 = 12 then (match st with
    | [] => []
    | x :: r => (1 - x) :: r)
  else (match st with
    | y :: x :: r => cmp e.1 x y :: r
    | r => r)
def evs (env : Nat → Int64) : List Ent → List Int64 → List Int64
  | [], st => st
  | e :: l, st => evs env l (ev1 env e st)
/-- the kinds of what stands on the stack: true for a truth -/
def ty1 (D : Nat) (e : Ent) (ts : List Bool) : Option (List Bool) :=
  if e.2 < 100000 then
    if e.1 = 0 then (if ts.length < D then some (false :: ts) else none)
    else if e.1 = 1 then (if ts.length < D ∧ e.2 < 12 then some (false :: ts) else none)
    else if e.1 = 12 then (match ts with
      | true :: r => some (true :: r)
      | _ => none)
    else if e.1 ≤ 6 then (match ts with
      | false :: false :: r => some (false :: r)
      | _ => none)
    else if e.1 ≤ 11 then (match ts with
      | false :: false :: r => some (true :: r)
      | _ => none)
    else if e.1 ≤ 14 then (match ts with
      | true :: true :: r => some (true :: r)
      | _ => none)
    else none
  else none
def tys (D : Nat) : List Ent → List Bool → Option (List Bool)
  | [], ts => some ts
  | e :: l, ts => (ty1 D e ts).bind (tys D l)
theorem tys_app (D : Nat) : ∀ (l l' : List Ent) (ts : List Bool), tys D (l ++ l') ts = (tys D l ts).bind (tys D l')
  | [], l', ts => rfl
  | e :: l, l', ts => by
    simp only [List.cons_append, tys]
    cases ty1 D e ts with
    | none => rfl
    | some t => exact tys_app D l l' t
theorem evs_app (env : Nat → Int64) : ∀ (l l' : List Ent) (st : List Int64), evs env (l ++ l') st = evs env l' (evs env l st)
  | [], _, _ => rfl
  | e :: l, l', st => evs_app env l l' (ev1 env e st)
/-- values of these kinds -/
def okV : List Bool → List Int64 → Prop
  | [], [] => True
  | t :: ts, v :: st => (t = true → v = 0 ∨ v = 1) ∧ okV ts st
  | _, _ => False
theorem okV_len : ∀ (ts : List Bool) (st : List Int64), okV ts st → st.length = ts.length
  | [], [], _ => rfl
  | _ :: ts, _ :: st, h => by simp [okV_len ts st h.2]
  | [], _ :: _, h => absurd h (fun x => x)
  | _ :: _, [], h => absurd h (fun x => x)
theorem cmp_b {op : Nat} (h1 : 7 ≤ op) (h2 : op ≤ 11) (a b : Int64) : cmp op a b = 0 ∨ cmp op a b = 1 := by
  have h := x_compute op a b
  unfold f_X6_compute b_X6_compute_0 b_X6_compute_163 b_X6_compute_151 b_X6_compute_139 b_X6_compute_127 b_X6_compute_115 at h
  rcases (by omega : op = 7 ∨ op = 8 ∨ op = 9 ∨ op = 10 ∨ op = 11) with e | e | e | e | e <;> subst e <;> simp (decide := true) only [if_true, if_false] at h <;> (split at h) <;> (have h3 := Option.some.inj h; first | exact Or.inl h3.symm | exact Or.inr h3.symm)
theorem cmp_l {op : Nat} (h1 : 13 ≤ op) (h2 : op ≤ 14) {a b : Int64} (ha : a = 0 ∨ a = 1) (hb : b = 0 ∨ b = 1) : cmp op a b = 0 ∨ cmp op a b = 1 := by
  rcases (by omega : op = 13 ∨ op = 14) with e | e <;> subst e <;> rcases ha with rfl | rfl <;> rcases hb with rfl | rfl <;> decide +kernel
theorem ev1_ok (env : Nat → Int64) {D : Nat} {e : Ent} {ts ts' : List Bool} {st : List Int64} (ht : ty1 D e ts = some ts') (hv : okV ts st) : okV ts' (ev1 env e st) := by
  unfold ty1 at ht
  unfold ev1
  split at ht
  · by_cases h0 : e.1 = 0
    · rw [if_pos h0] at ht ⊢
      split at ht
      · cases ht; exact ⟨fun h => absurd h (by decide), hv⟩
      · cases ht
    rw [if_neg h0] at ht ⊢
    by_cases h1 : e.1 = 1
    · rw [if_pos h1] at ht ⊢
      split at ht
      · cases ht; exact ⟨fun h => absurd h (by decide), hv⟩
      · cases ht
    rw [if_neg h1] at ht ⊢
    by_cases h2 : e.1 = 12
    · rw [if_pos h2] at ht ⊢
      split at ht
      · cases ht
        cases st with
        | nil => exact absurd hv (fun x => x)
        | cons x r =>
          refine ⟨fun _ => ?_, hv.2⟩
          rcases hv.1 rfl with rfl | rfl
          · exact Or.inr (by decide)
          · exact Or.inl (by decide)
      · cases ht
    rw [if_neg h2] at ht ⊢
    by_cases h3 : e.1 ≤ 6
    · rw [if_pos h3] at ht
      split at ht
      · cases ht
        match st, hv with
        | y :: x :: r, hv => exact ⟨fun h => absurd h (by decide), hv.2.2⟩
      · cases ht
    rw [if_neg h3] at ht
    by_cases h4 : e.1 ≤ 11
    · rw [if_pos h4] at ht
      split at ht
      · cases ht
        match st, hv with
        | y :: x :: r, hv => exact ⟨fun _ => cmp_b (by omega) h4 x y, hv.2.2⟩
      · cases ht
    rw [if_neg h4] at ht
    by_cases h5 : e.1 ≤ 14
    · rw [if_pos h5] at ht
      split at ht
      · cases ht
        match st, hv with
        | y :: x :: r, hv => exact ⟨fun _ => cmp_l (by omega) h5 (hv.2.1 rfl) (hv.1 rfl), hv.2.2⟩
      · cases ht
    rw [if_neg h5] at ht
    cases ht
  · cases ht
theorem evs_ok (env : Nat → Int64) {D : Nat} : ∀ (l : List Ent) {ts ts' : List Bool} {st : List Int64}, tys D l ts = some ts' → okV ts st → okV ts' (evs env l st)
  | [], ts, ts', st, ht, hv => by cases ht; exact hv
  | e :: l, ts, ts', st, ht, hv => by
    unfold tys at ht
    cases h : ty1 D e ts with
    | none => rw [h] at ht; cases ht
    | some t =>
      rw [h] at ht
      exact evs_ok env l ht (ev1_ok env h hv)
/-- a stack in a row of longs -/
def stk (J : Nat → Nat → Int64) (a : Nat) : List Int64 → Prop
  | [] => True
  | v :: st => J a st.length = v ∧ stk J a st
theorem stk_up {J : Nat → Nat → Int64} {a n : Nat} {v : Int64} : ∀ (st : List Int64), stk J a st → st.length ≤ n → stk (up2 J a n v) a st
  | [], _, _ => trivial
  | x :: st, h, hn => ⟨by rw [up2_k _ _ _ (by simp at hn; omega)]; exact h.1, stk_up st h.2 (by simp at hn; omega)⟩
/-! more below, nothing else -/
theorem ty1_more {D : Nat} {e : Ent} {ts ts' : List Bool} (b : List Bool) (ht : ty1 D e ts = some ts') : ty1 (D + b.length) e (ts ++ b) = some (ts' ++ b) := by
  unfold ty1 at ht ⊢
  split at ht
  · rename_i hv
    rw [if_pos hv]
    by_cases h0 : e.1 = 0
    · rw [if_pos h0] at ht ⊢
      split at ht
      · cases ht; rw [if_pos (by simp; omega)]; rfl
      · cases ht
    rw [if_neg h0] at ht ⊢
    by_cases h1 : e.1 = 1
    · rw [if_pos h1] at ht ⊢
      split at ht
      · cases ht; rw [if_pos (by simp; omega)]; rfl
      · cases ht
    rw [if_neg h1] at ht ⊢
    by_cases h2 : e.1 = 12
    · rw [if_pos h2] at ht ⊢
      split at ht
      · cases ht; rfl
      · cases ht
    rw [if_neg h2] at ht ⊢
    by_cases h3 : e.1 ≤ 6
    · rw [if_pos h3] at ht ⊢
      split at ht
      · cases ht; rfl
      · cases ht
    rw [if_neg h3] at ht ⊢
    by_cases h4 : e.1 ≤ 11
    · rw [if_pos h4] at ht ⊢
      split at ht
      · cases ht; rfl
      · cases ht
    rw [if_neg h4] at ht ⊢
    by_cases h5 : e.1 ≤ 14
    · rw [if_pos h5] at ht ⊢
      split at ht
      · cases ht; rfl
      · cases ht
    rw [if_neg h5] at ht
    cases ht
  · cases ht
theorem tys_more {D : Nat} (b : List Bool) : ∀ (l : List Ent) {ts ts' : List Bool}, tys D l ts = some ts' → tys (D + b.length) l (ts ++ b) = some (ts' ++ b)
  | [], ts, ts', ht => by cases ht; rfl
  | e :: l, ts, ts', ht => by
    unfold tys at ht ⊢
    cases h : ty1 D e ts with
    | none => rw [h] at ht; cases ht
    | some t =>
      rw [h] at ht
      rw [ty1_more b h]
      exact tys_more b l ht
theorem ev1_more (env : Nat → Int64) {D : Nat} {e : Ent} {ts ts' : List Bool} {st : List Int64} (s : List Int64) (ht : ty1 D e ts = some ts') (hl : st.length = ts.length) : ev1 env e (st ++ s) = ev1 env e st ++ s := by
  unfold ty1 at ht
  unfold ev1
  split at ht
  · by_cases h0 : e.1 = 0
    · rw [if_pos h0, if_pos h0]; rfl
    rw [if_neg h0] at ht ⊢
    rw [if_neg h0]
    by_cases h1 : e.1 = 1
    · rw [if_pos h1, if_pos h1]; rfl
    rw [if_neg h1] at ht ⊢
    rw [if_neg h1]
    by_cases h2 : e.1 = 12
    · rw [if_pos h2] at ht ⊢
      rw [if_pos h2]
      split at ht
      · cases st with
        | nil => simp at hl
        | cons x r => rfl
      · cases ht
    rw [if_neg h2] at ht ⊢
    rw [if_neg h2]
    have h2l : 2 ≤ ts.length := by
      by_cases h3 : e.1 ≤ 6
      · rw [if_pos h3] at ht
        split at ht
        · simp
        · cases ht
      rw [if_neg h3] at ht
      by_cases h4 : e.1 ≤ 11
      · rw [if_pos h4] at ht
        split at ht
        · simp
        · cases ht
      rw [if_neg h4] at ht
      by_cases h5 : e.1 ≤ 14
      · rw [if_pos h5] at ht
        split at ht
        · simp
        · cases ht
      rw [if_neg h5] at ht
      cases ht
    match st, hl with
    | [], hl => simp at hl; omega
    | [_], hl => simp at hl; omega
    | y :: x :: r, _ => rfl
  · cases ht
theorem ev1_len (env : Nat → Int64) {D : Nat} {e : Ent} {ts ts' : List Bool} {st : List Int64} (ht : ty1 D e ts = some ts') (hv : okV ts st) : (ev1 env e st).length = ts'.length := okV_len _ _ (ev1_ok env ht hv)
theorem evs_more (env : Nat → Int64) {D : Nat} (s : List Int64) : ∀ (l : List Ent) {ts ts' : List Bool} {st : List Int64}, tys D l ts = some ts' → okV ts st → evs env l (st ++ s) = evs env l st ++ s
  | [], _, _, _, _, _ => rfl
  | e :: l, ts, ts', st, ht, hv => by
    unfold tys at ht
    unfold evs
    cases h : ty1 D e ts with
    | none => rw [h] at ht; cases ht
    | some t =>
      rw [h] at ht
      rw [ev1_more env s h (okV_len _ _ hv)]
      exact evs_more env s l ht (ev1_ok env h hv)
end
