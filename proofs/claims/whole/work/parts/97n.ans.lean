/-! ===== pure: the reference's stack of a test ===== -/
section AN
variable {len : Nat} {T : Nat → Nat}
def topI : List Nat → Int32
  | [] => -1
  | o :: _ => nI (o - 3)
theorem m_top {σ : MS} {d : Nat} {W : List Nat} (h : TK σ d W) (hl : W.length ≤ 400) : f_X12_top σ = some (topI W) := by
  obtain ⟨_, h2, h3⟩ := h
  unfold f_X12_top b_X12_top_0 b_X12_top_22
  rw [h2]
  cases W with
  | nil => rfl
  | cons o u =>
    have hl' : u.length + 1 ≤ 400 := by simpa using hl
    have := h3 0 (by simp)
    rw [if_neg (by rw [n_zero (by simp; omega)]; simp), nl_sub (by simp), chk_t (in_n (by simp; omega) (by decide)), ix_n (by simp; omega)]
    rw [show (o :: u).length - 1 - 0 = (o :: u).length - 1 by omega] at this
    rw [this]; rfl
theorem TK.tl {σ σ' : MS} {d d' o : Nat} {u : List Nat} (h : TK σ d (o :: u)) (h35 : sI σ' 35 = sI σ 35) (hd : sI σ' 0 35 = nI d') (hn : sI σ' 0 37 = nI u.length) : TK σ' d' u := by
  refine ⟨hd, hn, fun i hi => ?_⟩
  have := h.2.2 (i + 1) (by simp; omega)
  rw [show (o :: u).length - 1 - (i + 1) = u.length - 1 - i by simp; omega] at this
  rw [h35, this]; simp
theorem m_ans {k r v : Nat} (hk : 12 ≤ k ∧ k ≤ 14) (hr : r < 6) : ∀ (m d n : Nat) (u : List Nat) (es : List Ent) (σ : MS), (∀ o u', u = o :: u' → o ≠ k ∧ 12 ≤ o ∧ o ≤ 15) → m + u.length ≤ 60 → es.length + m < 300 → m < n → sI σ 0 31 = 0 → EM σ r es v → TK σ (d + (if k = 12 then m else 0)) (List.replicate m k ++ u) → d + m < 900 →
    ∃ σ', b_X12_answers_0 n (nI (k - 3)) σ = some σ' ∧ EM σ' r (es ++ op0 (List.replicate m k)) v ∧ TK σ' d u ∧ FQ r σ σ' ∧ (∀ j, j ≠ 34 → j ≠ 35 → j ≠ 37 → sI σ' 0 j = sI σ 0 j)
  | 0, d, n + 1, u, es, σ, hu, hl, he, hn, h31, hE, hK, hd => by
    have hK' : TK σ d u := by
      have : d + (if k = 12 then 0 else 0) = d := by split <;> omega
      rw [this] at hK
      exact hK
    refine ⟨σ, ?_, by simpa [op0] using hE, hK', FQ.refl r σ, fun _ _ _ _ => rfl⟩
    show (f_X12_top σ).bind _ = _
    rw [m_top hK' (by omega), bnd]
    cases u with
    | nil => rw [if_neg (by intro h; exact n_neg1 (k := k - 3) (by omega) h.symm)]; rfl
    | cons o u' =>
      obtain ⟨a1, a2, a3⟩ := hu o u' rfl
      show (if nI (o - 3) = nI (k - 3) then _ else _) = _
      rw [if_neg (by rw [nI_eq (by omega) (by omega)]; omega)]; rfl
  | m + 1, d, n + 1, u, es, σ, hu, hl, he, hn, h31, hE, hK, hd => by
    have hrep : List.replicate (m + 1) k ++ u = k :: (List.replicate m k ++ u) := rfl
    rw [hrep] at hK
    have hlen : (List.replicate m k ++ u).length = m + u.length := by simp
    have htr : trm k = k - 3 := by
      rcases (by omega : k = 12 ∨ k = 13 ∨ k = 14) with h | h | h <;> subst h <;> rfl
    obtain ⟨σ1, a1, a2, a3, a4, a5⟩ := m_entry (e := (k, 0)) (x := nI (k - 3)) (y := (0 : Int32)) (by rw [← htr]) rfl h31 hE hr (by omega)
    have e37 : sI σ1 0 37 = nI (m + u.length + 1) := by
      rw [a4 37 (by decide), hK.2.1]
      simp
    have e35 : sI σ1 0 35 = nI (d + (if k = 12 then m + 1 else 0)) := by rw [a4 35 (by decide)]; exact hK.1
    have key : ∀ w : Nat, w = d + (if k = 12 then m else 0) → ∃ σ', b_X12_answers_0 n (nI (k - 3)) (wI (wI σ1 0 37 (nI (m + u.length))) 0 35 (nI w)) = some σ' ∧ EM σ' r (es ++ op0 (List.replicate (m + 1) k)) v ∧ TK σ' d u ∧ FQ r σ σ' ∧ (∀ j, j ≠ 34 → j ≠ 35 → j ≠ 37 → sI σ' 0 j = sI σ 0 j) := by
      intro w hw
      subst hw
      have hE2 : EM (wI (wI σ1 0 37 (nI (m + u.length))) 0 35 (nI (d + (if k = 12 then m else 0)))) r (es ++ [(k, 0)]) v := by
        obtain ⟨b1, b2, b3, b4, b5⟩ := a2
        exact ⟨by rw [sI_r, if_neg (by decide), sI_r, if_neg (by decide)]; exact b1, by rw [sI_r, if_neg (by decide), sI_r, if_neg (by decide)]; exact b2, fun j hj => by rw [sI_wIn _ _ _ _ (by decide), sI_wIn _ _ _ _ (by decide), sI_wIn _ _ _ _ (by decide), sI_wIn _ _ _ _ (by decide)]; exact b3 j hj, by rw [sI_r, if_neg (by decide), sI_r, if_neg (by decide)]; exact b4, by rw [sI_r, if_neg (by decide), sI_r, if_neg (by decide)]; exact b5⟩
      have hK2 : TK (wI (wI σ1 0 37 (nI (m + u.length))) 0 35 (nI (d + (if k = 12 then m else 0)))) (d + (if k = 12 then m else 0)) (List.replicate m k ++ u) := hK.tl (by rw [sI_wIn _ _ _ _ (by decide), sI_wIn _ _ _ _ (by decide)]; exact a5) (by rw [sI_r, if_pos rfl]) (by rw [sI_r, if_neg (by decide), sI_r, if_pos rfl, hlen])
      obtain ⟨σ', c1, c2, c3, c4, c5⟩ := m_ans hk hr m d n u (es ++ [(k, 0)]) _ hu (by omega) (by simp; omega) (by omega) (by rw [sI_r, if_neg (by decide), sI_r, if_neg (by decide), a4 31 (by decide)]; exact h31) hE2 hK2 (by omega)
      refine ⟨σ', c1, ?_, c3, a3.trans ((FQ.w0 r _ _ (by decide)).trans ((FQ.w0 r _ _ (by decide)).trans c4)), fun j j1 j2 j3 => ?_⟩
      · have : es ++ [(k, 0)] ++ op0 (List.replicate m k) = es ++ op0 (List.replicate (m + 1) k) := by simp [op0, List.replicate_succ]
        rw [← this]; exact c2
      · rw [c5 j j1 j2 j3, sI_r, if_neg j2, sI_r, if_neg j3, a4 j j1]
    show ∃ σ', (f_X12_top σ).bind _ = some σ' ∧ _
    rw [m_top hK (by simp; omega), bnd]
    show ∃ σ', (if nI (k - 3) = nI (k - 3) then _ else _) = some σ' ∧ _
    rw [if_pos rfl, if_pos h31, a1, bnd]
    have s37 : nI (m + u.length + 1) - (1 : Int32) = nI (m + u.length) := by rw [nl_sub (by omega)]; rfl
    by_cases c : k = 12
    · subst c
      rw [if_pos (show nI (12 - 3) = (9 : Int32) from rfl)]
      unfold b_X12_answers_47
      rw [e37, s37, sI_r, if_neg (by decide), e35, if_pos rfl, show nI (d + (m + 1)) - (1 : Int32) = nI (d + m) by rw [nl_sub (by omega)]; rfl]
      exact key (d + m) (by rw [if_pos rfl])
    · rw [if_neg (by rw [show (9 : Int32) = nI 9 from rfl, nI_eq (by omega) (by decide)]; omega)]
      unfold b_X12_answers_47
      rw [e37, s37, sI_r, if_neg (by decide), e35, if_neg c, show nI (d + 0) - (0 : Int32) = nI (d + 0) by rw [nl_sub (by omega)]; rfl]
      exact key (d + 0) (by rw [if_neg c])
  | _, _, 0, _, _, _, _, _, _, hn, _, _, _, _ => absurd hn (Nat.not_lt_zero _)
end AN
