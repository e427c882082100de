/-! ===== pure: the rule reader's stack and codes ===== -/
section
def Stk (σ : MS) (ws : List Nat) : Prop := sI σ 17 2 = nI ws.length ∧ ∀ i, i < ws.length → sI σ 18 (ws.length - 1 - i) = nI (ws.getD i 0)
def Cod (σ : MS) (cs : List Ent) : Prop := sI σ 17 8 = nI cs.length ∧ ∀ i, i < cs.length → sI σ 19 i = encX (cs.getD i (0, 0))
def lev (o : Nat) : Nat := [9, 9, 6, 6, 6, 5, 5, 4, 4, 4, 4, 4, 3, 2, 1, 0].getD o 0
theorem lev_ok : ∀ o, o < 16 → levT.getD o 0 = nI (lev o) := by decide +kernel
theorem lev_lt : ∀ o, o < 16 → lev o < 10 := by decide +kernel
/-- what of the reader's own fields stays: 3 state, 4 part, 5 depth, 6 values -/
def FC (σ σ' : MS) : Prop := Sm σ σ' ∧ ∀ b, b ≠ 17 → b ≠ 18 → b ≠ 19 → b ≠ 20 → sI σ' b = sI σ b
theorem FC.refl (σ : MS) : FC σ σ := ⟨Sm.refl σ, fun _ _ _ _ _ => rfl⟩
theorem FC.trans {σ σ' σ'' : MS} (h : FC σ σ') (g : FC σ' σ'') : FC σ σ'' := ⟨h.1.trans g.1, fun b h1 h2 h3 h4 => (g.2 b h1 h2 h3 h4).trans (h.2 b h1 h2 h3 h4)⟩
theorem FC.w (σ : MS) {a : Nat} (k : Nat) (v : Int32) (h : 17 ≤ a ∧ a ≤ 20) : FC σ (wI σ a k v) := ⟨⟨rfl, rfl, rfl⟩, fun b h1 h2 h3 h4 => sI_wIn _ _ _ _ (by omega)⟩
theorem FA.fc {σ σ' : MS} (h : FA 20 σ σ') : FC σ σ' := ⟨h.1, fun b _ _ _ hb => h.2 b hb⟩
theorem x_push {σ : MS} {ws : List Nat} {o : Nat} {x : Int32} (hx : x = nI o) (h : Stk σ ws) (hl : ws.length < 64) : ∃ σ', f_X7_push x σ = some σ' ∧ Stk σ' (o :: ws) ∧ FC σ σ' ∧ (∀ j, j ≠ 2 → sI σ' 17 j = sI σ 17 j) ∧ sI σ' 19 = sI σ 19 ∧ sI σ' 20 = sI σ 20 := by
  subst hx
  obtain ⟨h1, h2⟩ := h
  unfold f_X7_push b_X7_push_0
  rw [h1, if_neg (by rw [show (64 : Int32) = nI 64 from rfl, nI_leI (by decide) (by omega)]; omega), chk_t (in_n hl (by decide)), ix_n (by omega)]
  unfold b_X7_push_32
  refine ⟨_, rfl, ⟨?_, fun i hi => ?_⟩, (FC.w σ _ _ (by decide)).trans (FC.w _ _ _ (by decide)), fun j hj => ?_, ?_, ?_⟩
  · rw [sI_r, if_pos rfl, sI_wIn _ _ _ _ (by decide), h1, nl_add]; rfl
  · rw [sI_wIn _ _ _ _ (by decide), sI_r]
    cases i with
    | zero => rw [if_pos (by simp)]; rfl
    | succ i =>
      have hi' : i < ws.length := by simpa using hi
      rw [if_neg (by simp; omega)]
      have := h2 i hi'
      rw [show (o :: ws).length - 1 - (i + 1) = ws.length - 1 - i by simp; omega]
      rw [this]; rfl
  · rw [sI_r, if_neg hj, sI_wIn _ _ _ _ (by decide)]
  · rw [sI_wIn _ _ _ _ (by decide), sI_wIn _ _ _ _ (by decide)]
  · rw [sI_wIn _ _ _ _ (by decide), sI_wIn _ _ _ _ (by decide)]
theorem x_emit {σ : MS} {cs : List Ent} {e : Ent} {x : Int32} (hx : x = encX e) (h : Cod σ cs) (hl : cs.length < 401) : ∃ σ', f_X7_emit x σ = some σ' ∧ Cod σ' (cs ++ [e]) ∧ FC σ σ' ∧ (∀ j, j ≠ 8 → sI σ' 17 j = sI σ 17 j) ∧ sI σ' 18 = sI σ 18 ∧ sI σ' 20 = sI σ 20 := by
  subst hx
  obtain ⟨h1, h2⟩ := h
  unfold f_X7_emit b_X7_emit_0
  rw [h1, if_neg (by rw [show (401 : Int32) = nI 401 from rfl, nI_leI (by decide) (by omega)]; omega), chk_t (in_n hl (by decide)), ix_n (by omega)]
  unfold b_X7_emit_32
  refine ⟨_, rfl, ⟨?_, fun i hi => ?_⟩, (FC.w σ _ _ (by decide)).trans (FC.w _ _ _ (by decide)), fun j hj => ?_, ?_, ?_⟩
  · rw [sI_r, if_pos rfl, sI_wIn _ _ _ _ (by decide), h1, nl_add]; simp
  · rw [sI_wIn _ _ _ _ (by decide), sI_r]
    by_cases c : i = cs.length
    · subst c; rw [if_pos rfl]; simp
    · have hi' : i < cs.length := by simp at hi; omega
      rw [if_neg c, h2 i hi']
      congr 1
      rw [List.getD_eq_getElem?_getD, List.getD_eq_getElem?_getD, List.getElem?_append_left hi']
  · rw [sI_r, if_neg hj, sI_wIn _ _ _ _ (by decide)]
  · rw [sI_wIn _ _ _ _ (by decide), sI_wIn _ _ _ _ (by decide)]
  · rw [sI_wIn _ _ _ _ (by decide), sI_wIn _ _ _ _ (by decide)]
def op0 (t : List Nat) : List Ent := t.map (fun o => (o, 0))
def nts (t : List Nat) : Nat := (t.filter (fun o => o == 12)).length
theorem encX_op (o : Nat) : encX (o, 0) = nI o := by unfold encX; simp
theorem Stk.tl {σ : MS} {o : Nat} {ws : List Nat} (h : Stk σ (o :: ws)) : sI σ 18 ws.length = nI o ∧ ∀ i, i < ws.length → sI σ 18 (ws.length - 1 - i) = nI (ws.getD i 0) := by
  refine ⟨?_, fun i hi => ?_⟩
  · have := h.2 0 (by simp)
    simpa using this
  · have := h.2 (i + 1) (by simp; omega)
    rw [show (o :: ws).length - 1 - (i + 1) = ws.length - 1 - i by simp; omega] at this
    simpa using this
theorem x_settle {L : Nat} (hL : L < 10) : ∀ (t u : List Nat) (cs : List Ent) (d n : Nat) (σ : MS), (∀ o, o ∈ t → o < 16 ∧ L ≤ lev o) → (∀ o u', u = o :: u' → o < 16 ∧ lev o < L) → t.length + u.length ≤ 64 → cs.length + t.length ≤ 401 → t.length < n → Stk σ (t ++ u) → Cod σ cs → sI σ 17 5 = nI (d + nts t) → d + nts t < 1000 →
    ∃ σ', b_X7_settleDownTo_0 n (nI L) σ = some σ' ∧ Stk σ' u ∧ Cod σ' (cs ++ op0 t) ∧ sI σ' 17 5 = nI d ∧ FC σ σ' ∧ (∀ j, j ≠ 2 → j ≠ 5 → j ≠ 8 → sI σ' 17 j = sI σ 17 j) ∧ sI σ' 20 = sI σ 20
  | [], u, cs, d, n + 1, σ, ht, hu, hl, hc, hn, hS, hC, hd, hd2 => by
    have e : b_X7_settleDownTo_0 (n + 1) (nI L) σ = some σ := by
      unfold b_X7_settleDownTo_0
      rw [hS.1]
      cases u with
      | nil => rw [if_pos (by decide)]; rfl
      | cons o u' =>
        obtain ⟨g1, g2⟩ := hu o u' rfl
        have hlen : ([] ++ o :: u' : List Nat).length = u'.length + 1 := by simp
        have hl' : u'.length + 1 ≤ 64 := by simpa using hl
        rw [hlen, if_neg (by rw [nl_le (by decide) (by omega)]; omega), nl_sub (by omega)]
        rw [show u'.length + 1 - 1 = u'.length by omega, chk_t (in_n (by omega) (by decide)), ix_n (by omega), (Stk.tl (o := o) hS).1, chk_t (in_n g1 (by decide)), ix_n (by omega), lev_ok o g1, if_pos (by rw [nI_ltI (by have := lev_lt o g1; omega) (by omega)]; exact g2)]
        rfl
    exact ⟨σ, e, hS, by simpa [op0] using hC, by simpa [nts] using hd, FC.refl σ, fun _ _ _ _ => rfl, rfl⟩
  | o :: t, u, cs, d, n + 1, σ, ht, hu, hl, hc, hn, hS, hC, hd, hd2 => by
    obtain ⟨g1, g2⟩ := ht o (by simp)
    have hlen : (o :: t ++ u).length = (t ++ u).length + 1 := by simp
    have hlen2 : (t ++ u).length = t.length + u.length := by simp
    have hl' : t.length + u.length + 1 ≤ 64 := by simpa [Nat.add_right_comm] using hl
    have hS' : Stk σ (o :: (t ++ u)) := hS
    have hnt : nts (o :: t) = (if o = 12 then 1 else 0) + nts t := by
      unfold nts
      by_cases c : o = 12
      · subst c; simp; omega
      · rw [if_neg c, List.filter_cons_of_neg (by simpa using c)]; omega
    unfold b_X7_settleDownTo_0
    rw [hS.1, hlen, if_neg (by rw [nl_le (by decide) (by omega)]; omega), nl_sub (by omega)]
    rw [show (t ++ u).length + 1 - 1 = (t ++ u).length by omega, chk_t (in_n (by omega) (by decide)), ix_n (by omega), hS'.tl.1, chk_t (in_n g1 (by decide)), ix_n (by omega), lev_ok o g1, if_neg (by rw [nI_ltI (by have := lev_lt o g1; omega) (by omega)]; omega)]
    have r2 : sI (wI σ 17 2 (nI (t ++ u).length)) 17 2 = nI (t ++ u).length := by rw [sI_r, if_pos rfl]
    have r18 : sI (wI σ 17 2 (nI (t ++ u).length)) 18 = sI σ 18 := sI_wIn _ _ _ _ (by decide)
    rw [r2, chk_t (in_n (by omega) (by decide)), ix_n (by omega), r18, hS'.tl.1]
    have r5 : sI (wI σ 17 2 (nI (t ++ u).length)) 17 5 = nI (d + nts (o :: t)) := by rw [sI_r, if_neg (by decide)]; exact hd
    rw [r5]
    have key : ∀ σ1 : MS, FC σ σ1 → (∀ j, j ≠ 2 → j ≠ 5 → j ≠ 8 → sI σ1 17 j = sI σ 17 j) → sI σ1 20 = sI σ 20 → sI σ1 18 = sI σ 18 → sI σ1 19 = sI σ 19 → sI σ1 17 8 = sI σ 17 8 → sI σ1 17 2 = nI (t ++ u).length → sI σ1 17 5 = nI (d + nts t) → ∃ σ', b_X7_settleDownTo_60 (b_X7_settleDownTo_0 n) (nI L) σ1 = some σ' ∧ Stk σ' u ∧ Cod σ' (cs ++ op0 (o :: t)) ∧ sI σ' 17 5 = nI d ∧ FC σ σ' ∧ (∀ j, j ≠ 2 → j ≠ 5 → j ≠ 8 → sI σ' 17 j = sI σ 17 j) ∧ sI σ' 20 = sI σ 20 := by
      intro σ1 f1 f2 f3 f4 f5 f6 f7 f8
      have hC1 : Cod σ1 cs := ⟨by rw [f6]; exact hC.1, by rw [f5]; exact hC.2⟩
      obtain ⟨σ2, a1, a2, a3, a4, a5, a6⟩ := x_emit (e := (o, 0)) (x := nI o) (encX_op o).symm hC1 (by simp at hc; omega)
      have hS2 : Stk σ2 (t ++ u) := ⟨by rw [a4 2 (by decide)]; exact f7, fun i hi => by rw [a5, f4]; exact hS'.tl.2 i hi⟩
      obtain ⟨σ3, b1, b2, b3, b4, b5, b6, b7⟩ := x_settle hL t u (cs ++ [(o, 0)]) d n σ2 (fun o' ho => ht o' (List.mem_cons_of_mem _ ho)) hu (by omega) (by simp at hc ⊢; omega) (by simp at hn; omega) hS2 a2 (by rw [a4 5 (by decide)]; exact f8) (by omega)
      refine ⟨σ3, ?_, b2, ?_, b4, f1.trans (a3.trans b5), fun j h1 h2 h3 => ?_, by rw [b7, a6, f3]⟩
      · unfold b_X7_settleDownTo_60
        rw [f7, chk_t (in_n (by omega) (by decide)), ix_n (by omega), f4, hS'.tl.1, a1, bnd]
        exact b1
      · simpa [op0] using b3
      · rw [b6 j h1 h2 h3, a4 j h3, f2 j h1 h2 h3]
    by_cases c : o = 12
    · have hge : 1 ≤ d + nts (o :: t) := by rw [hnt, if_pos c]; omega
      rw [if_pos (by rw [c]; rfl), nl_sub hge]
      refine key _ ((FC.w σ _ _ (by decide)).trans (FC.w _ _ _ (by decide))) (fun j h1 h2 h3 => ?_) ?_ ?_ ?_ ?_ ?_ ?_
      · rw [sI_r, if_neg h2, sI_r, if_neg h1]
      · rw [sI_wIn _ _ _ _ (by decide), sI_wIn _ _ _ _ (by decide)]
      · rw [sI_wIn _ _ _ _ (by decide), sI_wIn _ _ _ _ (by decide)]
      · rw [sI_wIn _ _ _ _ (by decide), sI_wIn _ _ _ _ (by decide)]
      · rw [sI_r, if_neg (by decide), sI_r, if_neg (by decide)]
      · rw [sI_r, if_neg (by decide), sI_r, if_pos rfl]
      · rw [sI_r, if_pos rfl, hnt, if_pos c]; congr 1; omega
    · rw [if_neg (by rw [show (12 : Int32) = nI 12 from rfl, nI_eq (by omega) (by decide)]; exact c)]
      refine key _ (FC.w σ _ _ (by decide)) (fun j h1 h2 h3 => ?_) ?_ ?_ ?_ ?_ ?_ ?_
      · rw [sI_r, if_neg h1]
      · rw [sI_wIn _ _ _ _ (by decide)]
      · rw [sI_wIn _ _ _ _ (by decide)]
      · rw [sI_wIn _ _ _ _ (by decide)]
      · rw [sI_r, if_neg (by decide)]
      · rw [sI_r, if_pos rfl]
      · rw [sI_r, if_neg (by decide), hd, hnt, if_neg c]; congr 1; omega
  | _, _, _, _, 0, _, _, _, _, _, hn, _, _, _, _ => absurd hn (Nat.not_lt_zero _)
end
