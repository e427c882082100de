/-! ===== from the places while objects are made to the places of the law ===== -/
section
def okR0 (σ : MS) : Bool := (List.range 56).all (fun i => (List.range 64).all (fun j => match sR σ i j with
  | none => true
  | some k => decide (k < 56)))
theorem st_r : okO okR0 (f_X11_init 0 (al mE (30 + 11) 0)) = true := by decide +kernel
abbrev shOK (i : Nat) (q : Nat × Nat) : Prop := q.1 < 3 ∨ q.1 = 3 ∨ ((q.1 = 4 ∨ q.1 = 5 ∨ q.1 = 6) ∧ q.2 ≤ 64) ∨ (¬ q.1 < 10 ∧ q.1 < 30 ∧ ∀ k, k < nf (q.1 - 10) → k < 64 ∧ (fk (q.1 - 10) k = 0 ∨ fk (q.1 - 10) k = 1 ∨ FP (q.1 - 10) k i < 56))
theorem fp_x : ∀ i, i < 56 → ∀ q, SHX[i]? = some q → shOK i q := by
  intro i hi q hq
  have hd : ∀ i, i < 56 → shOK i (SHX.getD i (0, 0)) := by decide +kernel
  have e : SHX.getD i (0, 0) = q := by rw [List.getD_eq_getElem?_getD, hq]; rfl
  have := hd i hi
  rw [e] at this
  exact this
theorem arrV_cg {cA : ClassId} {n : Nat} {f g : Nat → Value} (h : ∀ j, j < n → f j = g j) : arrV cA n f = arrV cA n g := by
  unfold arrV
  congr 1
  congr 1
  funext j
  exact h j.1 j.2
theorem at_cg {D : va_G} {cl : List vw_C} {dA ρ ρ' : Nat → Nat} {σ : MS} {i a : Nat} {H : Heap} (hρ : ∀ k, k < 56 → ρ k = ρ' k) (hR : ∀ j, j < 64 → ∀ k, sR σ i j = some k → k < 56) (hq : shOK i (sS σ i)) (h : va_at D cl (a, cellE ρ dA σ i) H) : va_at D cl (a, cellE ρ' dA σ i) H := by
  unfold cellE at h ⊢
  rcases hq with hq | hq | ⟨hq, hl⟩ | ⟨h1, h2, h3⟩
  · rw [if_pos hq] at h ⊢; exact h
  · rw [if_neg (by omega), if_pos hq] at h ⊢; exact h
  · rw [if_neg (by omega), if_neg (by omega), if_pos (by omega)] at h ⊢
    have h' : H[a]? = some (arrV (dA (sS σ i).1) (sS σ i).2 (fun j => va_rf ((sR σ i j).map ρ))) := h
    show H[a]? = some (arrV (dA (sS σ i).1) (sS σ i).2 (fun j => va_rf ((sR σ i j).map ρ')))
    rw [h']
    congr 1
    refine arrV_cg (fun j hj => ?_)
    cases hr : sR σ i j with
    | none => rfl
    | some k => show va_rf (some (ρ k)) = va_rf (some (ρ' k)); rw [hρ k (hR j (by omega) k hr)]
  · rw [if_neg (by omega), if_neg (by omega), if_neg (by omega), if_pos h2] at h ⊢
    have e : (List.range (nf ((sS σ i).1 - 10))).map (fun k => cR ρ (fv σ false ((sS σ i).1 - 10) k i)) = (List.range (nf ((sS σ i).1 - 10))).map (fun k => cR ρ' (fv σ false ((sS σ i).1 - 10) k i)) := by
      refine List.map_congr_left (fun k hk => ?_)
      obtain ⟨h4, h5⟩ := h3 k (List.mem_range.mp hk)
      unfold fv
      by_cases g0 : fk ((sS σ i).1 - 10) k = 0
      · rw [if_pos g0]; rfl
      · rw [if_neg g0]
        by_cases g1 : fk ((sS σ i).1 - 10) k = 1
        · rw [if_pos g1]
          cases hr : sR σ i k with
          | none => rfl
          | some x => show Value.ref (ρ x) = Value.ref (ρ' x); rw [hρ x (hR k h4 x hr)]
        · rw [if_neg g1]
          have h6 : FP ((sS σ i).1 - 10) k i < 56 := by
            rcases h5 with h5 | h5 | h5
            · exact absurd h5 g0
            · exact absurd h5 g1
            · exact h5
          show Value.ref (ρ _) = Value.ref (ρ' _)
          rw [hρ _ h6]
    rw [← e]; exact h
variable {dA : Nat → Nat} {D : va_G} {adK adV : Nat → Nat}
theorem rep_cx {σ : MS} {base : Nat} {H H2 : Heap} (hR : Rep (oX1 dA D adK adV base) σ H) (hn : sN σ = 56) (hs : ShX σ) (hr : okR0 σ = true) (hz : H2.size = base + 104) (hk : ∀ q : Nat, q < base + 56 → H2[q]? = H[q]?) : Rep (oX dA D adK adV base) σ H2 := by
  obtain ⟨h1, h2, h3, h4⟩ := hR
  simp only [okR0, List.all_eq_true, List.mem_range] at hr
  have hρ : ∀ k, k < 56 → oR (oX1 dA D adK adV base) k = oR (oX dA D adK adV base) k := fun k hk => by
    show rho base 1000000 0 adK adV k = rho base 56 48 adK adV k
    simp only [rho, if_pos (show k < 1000000 by omega), if_pos hk]
  have hb : ∀ k, k < 56 → oR (oX dA D adK adV base) k = base + k := fun k hk => by
    show rho base 56 48 adK adV k = _
    simp only [rho, if_pos (show k < 1000000 by omega), if_pos hk]
  have hat : ∀ k q, (wsO (oX dA D adK adV base) σ)[k]? = some q → k < 56 ∧ q = (base + k, cellE (oR (oX dA D adK adV base)) dA σ k) := fun k q hq => by
    have hl : k < 56 := by
      have := (List.getElem?_eq_some_iff.mp hq).1
      simp only [wsO, List.length_map, List.length_range] at this
      omega
    have := wsO_at (oX dA D adK adV base) (σ := σ) (i := k) (by omega)
    rw [hq] at this
    refine ⟨hl, ?_⟩
    rw [Option.some.inj this, hb k hl]; rfl
  have hsh : ∀ k, k < 56 → ∃ q, SHX[k]? = some q := fun k hk => ⟨SHX[k], List.getElem?_eq_getElem hk⟩
  refine ⟨fun k q hq => ?_, ⟨fun i j p q hp hq he => ?_, fun k q hq => ?_⟩, ⟨fun _ => ⟨by show 56 ≤ _; omega, by show H2.size = base + 48 + sN σ; omega⟩, fun h => absurd trivial h⟩, hs⟩
  · obtain ⟨hl, rfl⟩ := hat k q hq
    have g1 := h1 k _ (wsO_at (oX1 dA D adK adV base) (σ := σ) (i := k) (by omega))
    obtain ⟨sq, hsq⟩ := hsh k hl
    have g2 : sS σ k = sq := (hs k sq hsq).2
    have g3 := at_cg (ρ' := oR (oX dA D adK adV base)) hρ (fun j hj x hx => by
      have := hr k hl j hj
      rw [hx] at this
      exact of_decide_eq_true this) (by rw [g2]; exact fp_x k hl sq hsq) g1
    rw [hρ k hl, hb k hl] at g3
    exact va_at.kept g3 (hk _ (by show base + k < base + 56; omega))
  · obtain ⟨_, rfl⟩ := hat i p hp
    obtain ⟨_, rfl⟩ := hat j q hq
    have : base + i = base + j := he
    omega
  · obtain ⟨_, rfl⟩ := hat k q hq
    show base ≤ base + k ∧ ¬ (base + 56 ≤ base + k ∧ base + k < base + 104)
    omega
theorem rep_cm {σ : MS} {base : Nat} {H : Heap} (hR : Rep (oX1 dA D adK adV (base + 56)) σ H) (hn : sN σ = 48) (hs : ShM σ) : Rep (oM dA D adK adV base H.size) σ H := by
  obtain ⟨h1, h2, h3, h4⟩ := hR
  refine ⟨h1, ⟨h2.1, fun k q hq => ?_⟩, ⟨fun hf => absurd hf (fun x => x), fun _ => rfl⟩, hs⟩
  have hl : k < 48 := by
    have := (List.getElem?_eq_some_iff.mp hq).1
    simp only [wsO, List.length_map, List.length_range] at this
    omega
  have := wsO_at (oM dA D adK adV base H.size) (σ := σ) (i := k) (by omega)
  rw [hq] at this
  rw [Option.some.inj this]
  have e : oR (oM dA D adK adV base H.size) k = base + 56 + k := by
    show rho (base + 56) 1000000 0 adK adV k = _
    simp only [rho, if_pos (show k < 1000000 by omega)]
  show base + 56 ≤ oR (oM dA D adK adV base H.size) k ∧ oR (oM dA D adK adV base H.size) k < base + 104
  omega
end
