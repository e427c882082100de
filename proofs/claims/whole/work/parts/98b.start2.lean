/-! ===== pure: the start is a start ===== -/
section
theorem ww0 : WW W0 := by
  refine ⟨⟨by decide, by decide, by decide, by decide, by decide⟩, ⟨⟨⟨by decide, by decide, by decide, by decide⟩, fun k hk => absurd hk (Nat.not_lt_zero _), fun k hk => absurd hk (Nat.not_lt_zero _), fun k hk => absurd hk (Nat.not_lt_zero _)⟩, fun k hk => absurd hk (Nat.not_lt_zero _)⟩, ⟨⟨fun w _ => ⟨Nat.le_refl _, fun _ => rfl⟩, fun p _ => ⟨Nat.zero_le _, fun _ => rfl⟩, ⟨Nat.zero_lt_succ _, fun w _ _ => ?_⟩, Nat.zero_le _, Nat.zero_le _⟩, Nat.zero_le _⟩, ⟨⟨fun w _ => ⟨Nat.le_refl _, fun _ => rfl⟩, fun p _ => ⟨Nat.zero_le _, fun _ => rfl⟩, ⟨Nat.zero_lt_succ _, fun w _ _ => ?_⟩, Nat.zero_le _, Nat.zero_le _⟩, rfl, rfl, fun _ _ => rfl⟩, fun i hi => absurd hi (Nat.not_lt_zero _), fun i hi => absurd hi (Nat.not_lt_zero _)⟩
  · show bt 0 w = 0
    simp [bt]
  · show bt 0 w = 0
    simp [bt]
theorem okO_some {p : MS → Bool} {o : Option MS} (h : okO p o = true) : ∃ σ, o = some σ ∧ p σ = true := by
  cases o with
  | none => cases h
  | some σ => exact ⟨σ, rfl, h⟩
def ShM (σ : MS) : Prop := ∀ (i : Nat) (q : Nat × Nat), SHM[i]? = some q → i < sN σ ∧ sS σ i = q
theorem start_inv : ∃ σx σm, f_X11_init 0 (al mE (30 + 11) 0) = some σx ∧ f_X12_init 0 (al mE (30 + 12) 0) = some σm ∧ sN σx = 56 ∧ sN σm = 48 ∧ ShX σx ∧ ShM σm ∧ Inv 0 σx σm := by
  obtain ⟨σx, ex, hx⟩ := okO_some st_x
  obtain ⟨σm, em, hm⟩ := okO_some st_m
  refine ⟨σx, σm, ex, em, ?_⟩
  clear ex em
  simp only [okX0, Bool.and_eq_true, decide_eq_true_eq, List.all_eq_true, List.mem_range] at hx
  simp only [okM0, Bool.and_eq_true, decide_eq_true_eq, List.all_eq_true, List.mem_range] at hm
  obtain ⟨⟨⟨⟨⟨⟨⟨⟨⟨x1, x2⟩, x3⟩, x4⟩, x5⟩, x6⟩, x7⟩, x8⟩, x9⟩, x10⟩ := hx
  obtain ⟨⟨⟨⟨⟨⟨m1, m2⟩, m3⟩, m4⟩, m5⟩, m6⟩, m7⟩ := hm
  refine ⟨x1, m1, fun i q hi => ?_, fun i q hi => ?_, fun _ => 0, W0, fun _ => none, [], fun _ => 0, 0, ?_, ?_, ?_⟩
  · have hl : i < 56 := (List.getElem?_eq_some_iff.mp hi).1
    have := x2 i hl
    rw [hi] at this
    exact ⟨by omega, (Option.some.inj this).symm⟩
  · have hl : i < 48 := (List.getElem?_eq_some_iff.mp hi).1
    have := m2 i hl
    rw [hi] at this
    exact ⟨by omega, (Option.some.inj this).symm⟩
  · refine ⟨⟨by omega, by omega⟩, ⟨x3, fun i hi => absurd hi (Nat.not_lt_zero _)⟩, ⟨x4, fun i hi => absurd hi (Nat.not_lt_zero _)⟩, ⟨⟨x5 0 (by decide), ⟨x5 2 (by decide), x5 3 (by decide), x5 4 (by decide), x5 1 (by decide)⟩, fun k hk => absurd hk (Nat.not_lt_zero _), fun k hk => absurd hk (Nat.not_lt_zero _), fun k hk => absurd hk (Nat.not_lt_zero _)⟩, ⟨fun w hw => ⟨(x6 w hw).1.1.1, (x6 w hw).1.1.2⟩, fun p hp => (x7 p hp).1.1, x8.1.1.1.1.1, x8.1.1.1.1.2, x8.1.1.1.2⟩, ⟨fun w hw => ⟨(x6 w hw).1.2, (x6 w hw).2⟩, fun p hp => (x7 p hp).1.2, x8.1.1.2, x8.1.2, x8.2⟩, ⟨x9.1.1.1.1, x9.1.1.1.2, x9.1.1.2, x9.1.2⟩, fun i hi => absurd hi (Nat.not_lt_zero _), 0, by decide, x9.2, fun s hs b hb => ?_, fun i hi => absurd hi (Nat.not_lt_zero _)⟩, fun k hk => ⟨fun _ => (x7 k hk).2, fun V hV => nomatch hV⟩⟩
    have := x10 s hs
    rw [this] at hb
    cases hb
  · exact ⟨⟨m3.1.1.1.1, fun i hi => absurd hi (Nat.not_lt_zero _)⟩, ⟨m3.1.1.1.2, m3.1.1.2, fun i hi => absurd hi (Nat.not_lt_zero _)⟩, ⟨⟨m3.1.2, ⟨m4 2 (by decide), m4 3 (by decide), m4 4 (by decide), m4 0 (by decide)⟩, fun k hk => absurd hk (Nat.not_lt_zero _), fun k hk => absurd hk (Nat.not_lt_zero _), fun k hk => absurd hk (Nat.not_lt_zero _)⟩, ⟨fun k hk => absurd hk (Nat.not_lt_zero _), fun k hk => absurd hk (Nat.not_lt_zero _), m4 6 (by decide), m4 1 (by decide), m4 5 (by decide)⟩, ⟨fun k hk => absurd hk (Nat.not_lt_zero _), fun k hk => absurd hk (Nat.not_lt_zero _), m6⟩, ⟨m5, m4 8 (by decide), m4 7 (by decide), m3.2⟩, fun i hi => absurd hi (Nat.not_lt_zero _), fun i hi => absurd hi (Nat.not_lt_zero _)⟩, fun k hk => ⟨fun _ => m7 k hk, fun V hV => nomatch hV⟩⟩
  · exact ⟨⟨by decide, fun i hi => absurd hi (Nat.not_lt_zero _)⟩, ⟨by decide, fun i hi => absurd hi (Nat.not_lt_zero _)⟩, ⟨ww0, Nat.le_refl _⟩, fun k V _ h => nomatch h⟩
end
