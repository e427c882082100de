/-! ===== pure: new cells, a new world ===== -/
section
theorem getD_l {α : Type} {l l' : List α} {i : Nat} (d : α) (h : i < l.length) : (l ++ l').getD i d = l.getD i d := by
  rw [List.getD_eq_getElem?_getD, List.getD_eq_getElem?_getD, List.getElem?_append_left h]
theorem getD_r {α : Type} {l l' : List α} {i : Nat} (d : α) (h : l.length ≤ i) : (l ++ l').getD i d = l'.getD (i - l.length) d := by
  rw [List.getD_eq_getElem?_getD, List.getD_eq_getElem?_getD, List.getElem?_append_right h]
/-- cells have come behind a memory; the first of them has these references and numbers -/
def AC (σ0 : MS) (sh : List (Nat × Nat)) (R : Nat → Option Nat) (F : Nat → Int32) (σ : MS) : Prop :=
  sN σ = sN σ0 + sh.length ∧ (∀ p, p < sN σ0 → sS σ p = sS σ0 p ∧ sI σ p = sI σ0 p ∧ sR σ p = sR σ0 p) ∧ (∀ i, i < sh.length → sS σ (sN σ0 + i) = sh.getD i (0, 0)) ∧ sR σ (sN σ0) = R ∧ sI σ (sN σ0) = F
theorem AC.start (σ : MS) (kd n : Nat) : AC σ [(kd, n)] (fun _ => none) (fun _ => 0) (al σ kd n) := by
  refine ⟨rfl, fun p hp => ⟨?_, ?_, ?_⟩, fun i hi => ?_, ?_, ?_⟩
  · rw [sS_al, if_neg (by omega)]
  · rw [sI_al, if_neg (by omega)]
  · rw [sR_al, if_neg (by omega)]
  · have : i = 0 := by
      have : i < 1 := hi
      omega
    subst this
    rw [sS_al, if_pos (Nat.add_zero _)]; rfl
  · rw [sR_al, if_pos rfl]
  · rw [sI_al, if_pos rfl]
section CC
variable {σ0 σ σ' : MS} {sh sh' : List (Nat × Nat)} {R R' : Nat → Option Nat} {F F' : Nat → Int32} {q : Nat × Nat}
theorem AC.ext (h : AC σ0 sh R F σ) (h0 : 0 < sh.length) (g : AC σ sh' R' F' σ') : AC σ0 (sh ++ sh') R F σ' := by
  obtain ⟨a1, a2, a3, a4, a5⟩ := h
  obtain ⟨b1, b2, b3, b4, b5⟩ := g
  refine ⟨by rw [b1, a1, List.length_append]; omega, fun p hp => ⟨?_, ?_, ?_⟩, fun i hi => ?_, ?_, ?_⟩
  · rw [(b2 p (by omega)).1, (a2 p hp).1]
  · rw [(b2 p (by omega)).2.1, (a2 p hp).2.1]
  · rw [(b2 p (by omega)).2.2, (a2 p hp).2.2]
  · rw [List.length_append] at hi
    by_cases c : i < sh.length
    · rw [getD_l _ c, (b2 _ (by omega)).1, a3 i c]
    · rw [getD_r _ (by omega), ← b3 (i - sh.length) (by omega)]
      congr 1; omega
  · rw [(b2 _ (by omega)).2.2, a4]
  · rw [(b2 _ (by omega)).2.1, a5]
theorem AC.al (h : AC σ0 sh R F σ) (h0 : 0 < sh.length) (kd n : Nat) : AC σ0 (sh ++ [(kd, n)]) R F (al σ kd n) := h.ext h0 (AC.start σ kd n)
theorem AC.wR (h : AC σ0 sh R F σ) (k : Nat) (v : Option Nat) : AC σ0 sh (up1 R k v) F (wR σ (sN σ0) k v) := by
  obtain ⟨a1, a2, a3, a4, a5⟩ := h
  refine ⟨a1, fun p hp => ⟨(a2 p hp).1, (a2 p hp).2.1, ?_⟩, a3, ?_, a5⟩
  · rw [sR_wRn _ _ _ (by omega)]; exact (a2 p hp).2.2
  · funext j
    rw [sR_wR, if_pos rfl, a4]; rfl
theorem AC.wI (h : AC σ0 sh R F σ) (k : Nat) (v : Int32) : AC σ0 sh R (up1 F k v) (wI σ (sN σ0) k v) := by
  obtain ⟨a1, a2, a3, a4, a5⟩ := h
  refine ⟨a1, fun p hp => ⟨(a2 p hp).1, ?_, (a2 p hp).2.2⟩, a3, a4, ?_⟩
  · rw [sI_wIn _ _ _ _ (by omega)]; exact (a2 p hp).2.1
  · funext j
    rw [sI_wI, if_pos rfl, a5]; rfl
theorem AC.fin (h : AC σ0 (q :: sh) R F σ) (ci : Nat) : AC σ0 ((10 + ci, 0) :: sh) R F (fin σ (sN σ0) ci) := by
  obtain ⟨a1, a2, a3, a4, a5⟩ := h
  refine ⟨a1, fun p hp => ⟨?_, (a2 p hp).2.1, (a2 p hp).2.2⟩, fun i hi => ?_, a4, a5⟩
  · rw [sS_fin, if_neg (by omega)]; exact (a2 p hp).1
  · rw [sS_fin]
    cases i with
    | zero => rw [if_pos (Nat.add_zero _)]; rfl
    | succ j =>
      rw [if_neg (by omega)]
      exact a3 (j + 1) hi
theorem AC.t0 (h : AC σ0 (q :: sh) R F σ) : tfd σ (sN σ0) q := ⟨by have := h.1; rw [List.length_cons] at this; omega, by have := h.2.2.1 0 (by rw [List.length_cons]; omega); exact this⟩
theorem AC.fok (h : AC σ0 sh R F σ) (ci : Nat) (hr : ∀ k, k < nf ci → fk ci k = 2 → R k = some (FP ci k (sN σ0))) : finOK σ (sN σ0) ci := fun k hk h2 => by
  rw [h.2.2.2.1]; exact hr k hk h2
end CC
theorem x_newS (σ : MS) (hN : sN σ + 4 ≤ 1000000) : ∃ σ', f_X8_init (sN σ) (al σ (30 + 8) 0) = some σ' ∧ AC σ shState (sR σ' (sN σ)) (sI σ' (sN σ)) σ' ∧ SX (sN σ) σ' (fun _ _ => 0) := by
  obtain ⟨σ', a1, a2, a3, a4, a5⟩ := x_newState σ hN
  exact ⟨σ', a1, ⟨a2, a3, fun i hi => a4.2 i hi, rfl, rfl⟩, a5⟩
theorem x_newLand (σ : MS) (hN : sN σ + 12 ≤ 1000000) : ∃ σ' R, f_X3_init (sN σ) (al σ (30 + 3) 0) = some σ' ∧ AC σ shLand R (fun _ => 0) σ' ∧ SX (sN σ + 8) σ' (fun _ _ => 0) := by
  have h0 := AC.start σ (30 + 3) 0
  have h1 := (h0.al (by decide) 0 5).wR 5 (some (sN (al σ (30 + 3) 0)))
  have h2 := (h1.al (by decide) 0 5).wR 6 (some (sN (al σ (30 + 3) 0) + 1))
  have h3 := (h2.al (by decide) 0 4).wR 7 (some (sN (al σ (30 + 3) 0) + 2))
  have h4 := (h3.al (by decide) 0 4).wR 8 (some (sN (al σ (30 + 3) 0) + 3))
  have h5 := (h4.al (by decide) 0 4).wR 9 (some (sN (al σ (30 + 3) 0) + 4))
  generalize e5 : wR (al (wR (al (wR (al (wR (al (wR (al (al σ (30 + 3) 0) 0 5) (sN σ) 5 (some (sN (al σ (30 + 3) 0)))) 0 5) (sN σ) 6 (some (sN (al σ (30 + 3) 0) + 1))) 0 4) (sN σ) 7 (some (sN (al σ (30 + 3) 0) + 2))) 0 4) (sN σ) 8 (some (sN (al σ (30 + 3) 0) + 3))) 0 4) (sN σ) 9 (some (sN (al σ (30 + 3) 0) + 4)) = σ5 at h5
  have n5 : sN σ5 = sN σ + 6 := h5.1
  have h6 := (h5.al (by decide) 0 6).wR 10 (some (sN σ5))
  have h7 := (h6.al (by decide) 0 6).wR 11 (some (sN σ5 + 1))
  generalize e7 : wR (al (wR (al σ5 0 6) (sN σ) 10 (some (sN σ5))) 0 6) (sN σ) 11 (some (sN σ5 + 1)) = σ7 at h7
  have n7 : sN σ7 = sN σ5 + 2 := by rw [← e7]; rfl
  obtain ⟨σ8, a1, a2, a3⟩ := x_newS σ7 (by omega)
  have h8 := (h7.ext (by decide) a2).wR 12 (some (sN σ5 + 2))
  have hk : finOK (wR σ8 (sN σ) 12 (some (sN σ5 + 2))) (sN σ) 3 := h8.fok 3 (fun k hk h2 => by
    rw [n5]
    rcases (by have : k < 13 := hk; omega : k = 0 ∨ k = 1 ∨ k = 2 ∨ k = 3 ∨ k = 4 ∨ k = 5 ∨ k = 6 ∨ k = 7 ∨ k = 8 ∨ k = 9 ∨ k = 10 ∨ k = 11 ∨ k = 12) with e | e | e | e | e | e | e | e | e | e | e | e | e <;> subst e <;> first | rfl | exact absurd h2 (by decide))
  refine ⟨_, _, ?_, h8.fin 3, ?_⟩
  · have n0 : sN (al σ (30 + 3) 0) = sN σ + 1 := rfl
    have t8 : tfd σ8 (sN σ) (30 + 3, 0) := (h7.ext (by decide) a2).t0
    unfold f_X3_init b_X3_init_0
    rw [chk_t (by omega), chk_t (by omega), chk_t (by omega), chk_t (by omega), chk_t (by omega), e5]
    unfold b_X3_init_39
    rw [chk_t (by omega), chk_t (by omega), chk_t (by omega), e7, ← n7, a1, bnd, chk_t t8, n7, chk_t hk]
  · have e : sN σ7 = sN σ + 8 := by omega
    rw [e] at a3
    exact a3
/-- the world before anything is told -/
def W0 : Wd := (fun _ => 0, fun _ _ => 0, fun _ _ => 0, fun _ _ => 0, fun _ _ _ => 0, fun _ _ => 0)
theorem x_newWorld (σ : MS) (hN : sN σ + 21 ≤ 1000000) : ∃ σ' R F, f_X10_init (sN σ) (al σ (30 + 10) 0) = some σ' ∧ AC σ shWorld R F σ' ∧ (∀ s, sR σ' (sN σ + 17) s = none) ∧ ∀ ow v, XW ow v (sN σ) σ' W0 := by
  have h0 := AC.start σ (30 + 10) 0
  have n0 : sN (al σ (30 + 10) 0) = sN σ + 1 := rfl
  obtain ⟨σ1, R1, a1, a2, a3⟩ := x_newLand (al σ (30 + 10) 0) (by omega)
  have h1 := (h0.ext (by decide) a2).wR 0 (some (sN (al σ (30 + 10) 0)))
  have n1 : sN σ1 = sN σ + 13 := by rw [a2.1, n0]; rfl
  obtain ⟨σ2, b1, b2, b3⟩ := x_newS (wR σ1 (sN σ) 0 (some (sN (al σ (30 + 10) 0)))) (by rw [sN_wR]; omega)
  rw [sN_wR] at b1 b3
  have n2 : sN σ2 = sN σ + 17 := by rw [b2.1, sN_wR, n1]; rfl
  have h2 := (h1.ext (by decide) b2).wR 1 (some (sN σ1))
  have h3 := (h2.al (by decide) 4 20).wR 2 (some (sN σ2))
  have h4 := (h3.al (by decide) 0 10).wR 5 (some (sN σ2 + 1))
  have h5 := (h4.al (by decide) 0 10).wR 6 (some (sN σ2 + 2))
  have h6 := (h5.al (by decide) 0 10).wR 7 (some (sN σ2 + 3))
  have h7 := h6.wI 9 (-1)
  generalize e6 : wR (al (wR (al (wR (al (wR (al (wR σ2 (sN σ) 1 (some (sN σ1))) 4 20) (sN σ) 2 (some (sN σ2))) 0 10) (sN σ) 5 (some (sN σ2 + 1))) 0 10) (sN σ) 6 (some (sN σ2 + 2))) 0 10) (sN σ) 7 (some (sN σ2 + 3)) = σ6 at h6 h7
  have hk : finOK (wI σ6 (sN σ) 9 (-1)) (sN σ) 10 := h7.fok 10 (fun k hk h2 => by
    rw [n2, n1, n0]
    rcases (by have : k < 11 := hk; omega : k = 0 ∨ k = 1 ∨ k = 2 ∨ k = 3 ∨ k = 4 ∨ k = 5 ∨ k = 6 ∨ k = 7 ∨ k = 8 ∨ k = 9 ∨ k = 10) with e | e | e | e | e | e | e | e | e | e | e <;> subst e <;> first | rfl | exact absurd h2 (by decide))
  have t1 : tfd σ1 (sN σ) (30 + 10, 0) := (h0.ext (by decide) a2).t0
  have t2 : tfd σ2 (sN σ) (30 + 10, 0) := (h1.ext (by decide) b2).t0
  have h8 := h7.fin 10
  -- rows of the cells between
  have r6 : ∀ p, sN σ < p → p < sN σ + 17 → sI σ6 p = sI σ2 p := fun p q1 q2 => by
    rw [← e6, sI_wR, sI_al, if_neg (by show ¬ p = sN σ2 + 1 + 1 + 1; omega), sI_wR, sI_al, if_neg (by show ¬ p = sN σ2 + 1 + 1; omega), sI_wR, sI_al, if_neg (by show ¬ p = sN σ2 + 1; omega), sI_wR, sI_al, if_neg (by rw [sN_wR]; omega), sI_wR]
  have r2 : ∀ p, p < sN σ + 13 → sI σ2 p = sI σ1 p := fun p q => by
    rw [(b2.2.1 p (by rw [sN_wR]; omega)).2.1, sI_wR]
  have rf : ∀ p, sN σ < p → sI (fin (wI σ6 (sN σ) 9 (-1)) (sN σ) 10) p = sI σ6 p := fun p hp => by rw [sI_fin, sI_wIn _ _ _ _ (by omega)]
  refine ⟨_, _, _, ?_, h8, fun s => ?_, fun ow v => ?_⟩
  · unfold f_X10_init b_X10_init_0
    rw [chk_t (by omega), a1, bnd, chk_t t1, chk_t (by omega), b1, bnd, chk_t t2, chk_t (by omega), chk_t (by omega), chk_t (by omega), chk_t (by omega), e6]
    unfold b_X10_init_59
    rw [chk_t hk]
  · rw [sR_fin, sR_wI, ← e6, sR_wRn _ _ _ (by omega), sR_al, if_neg (by show ¬ sN σ + 17 = sN σ2 + 1 + 1 + 1; omega), sR_wRn _ _ _ (by omega), sR_al, if_neg (by show ¬ sN σ + 17 = sN σ2 + 1 + 1; omega), sR_wRn _ _ _ (by omega), sR_al, if_neg (by show ¬ sN σ + 17 = sN σ2 + 1; omega), sR_wRn _ _ _ (by omega), sR_al, if_pos (by rw [sN_wR]; omega)]
  · have z : ∀ k, k ≠ 9 → sI (fin (wI σ6 (sN σ) 9 (-1)) (sN σ) 10) (sN σ) k = 0 := fun k hk => by
      rw [h8.2.2.2.2]; exact up1_n _ _ hk
    have z9 : sI (fin (wI σ6 (sN σ) 9 (-1)) (sN σ) 10) (sN σ) 9 = -1 := by
      rw [h8.2.2.2.2]; exact up1_s _ _ _
    have zl : sI (fin (wI σ6 (sN σ) 9 (-1)) (sN σ) 10) (sN σ + 1) = fun _ => 0 := by
      rw [rf _ (by omega), r6 _ (by omega) (by omega), r2 _ (by omega), ← n0]; exact a2.2.2.2.2
    refine ⟨⟨by rw [zl]; rfl, ⟨by rw [zl]; exact ⟨rfl, rfl, rfl, rfl⟩, fun k hk => absurd hk (Nat.not_lt_zero _), fun k hk => absurd hk (Nat.not_lt_zero _), fun k hk => absurd hk (Nat.not_lt_zero _)⟩⟩, ?_, ?_, ⟨by rw [z9]; rfl, z 10 (by decide), z 8 (by decide), z 4 (by decide)⟩, fun i hi => absurd hi (Nat.not_lt_zero _), 0, by decide, z 3 (by decide), fun s hs b hb => ?_, fun i hi => absurd hi (Nat.not_lt_zero _)⟩
    · have := a3.fr (σ' := fin (wI σ6 (sN σ) 9 (-1)) (sN σ) 10) (fun p q1 q2 => by rw [rf _ (by omega), r6 _ (by omega) (by omega), r2 _ (by omega)])
      exact this
    · rw [n1] at b3
      exact b3.fr (fun p q1 q2 => by rw [rf _ (by omega), r6 _ (by omega) (by omega)])
    · rw [sR_fin, sR_wI, ← e6, sR_wRn _ _ _ (by omega), sR_al, if_neg (by show ¬ sN σ + 17 = sN σ2 + 1 + 1 + 1; omega), sR_wRn _ _ _ (by omega), sR_al, if_neg (by show ¬ sN σ + 17 = sN σ2 + 1 + 1; omega), sR_wRn _ _ _ (by omega), sR_al, if_neg (by show ¬ sN σ + 17 = sN σ2 + 1; omega), sR_wRn _ _ _ (by omega), sR_al, if_pos (by rw [sN_wR]; omega)] at hb
      cases hb
end
