theorem en_nest : ∀ w ∈ nestL, w ∈ lw_tbl := by decide +kernel
theorem arr_prim {s : State} {a : Array Value} {ty : FieldType} (h : (Cond.arrayClass ty).before a s = true) (hp : ∀ C, ty ≠ .object C) : ∃ c : ClassId, ArrOfT s c ty ∧ va_RA s c ty := by
  obtain ⟨c, k, comp, h1, h2, h3⟩ := Cond.arrayClass_spec h
  refine ⟨c, fun n z => ⟨fun k h => (by cases h), k, h2, comp, h3⟩, ?_⟩
  cases ty with
  | object C => exact absurd rfl (hp C)
  | _ => exact h1
theorem arr_obj {s : State} {a : Array Value} {C : String} (h : (Cond.arrayOver (.object C)).before a s = true) : ∃ c : ClassId, ArrOfT s c (.object C) ∧ va_RA s c (.object C) := by
  obtain ⟨comp, c, k, h1, h2, h3, h4, h5⟩ := Cond.arrayOver_spec h
  exact ⟨c, fun n z => ⟨fun k h => (by cases h), k, h3, comp, h4⟩, k, comp, h3, h4, h1, h5⟩
theorem strT_at : ∀ (i : Nat) (q : String × Nat × String), strT[i]? = some q → i < 23 ∧ strT.getD i ("", 0, "") = q := by
  intro i q h
  have hl := (List.getElem?_eq_some_iff.mp h).1
  exact ⟨hl, by simp [List.getD, h]⟩
theorem va_R0 {own tx : String} {k a : Nat} {A : Array Value} {U : State} (h1 : (Cond.stringRef own k tx).before A U = true) (h2 : (Term.string own k).eval A U none [] U = some (.ref a)) : vk_R own k tx a U := vk_R.of h1 h2
set_option maxHeartbeats 4000000 in
theorem law_env {s : State} {b : Nat} (hts : ∀ w ∈ lw_tbl, w.before #[Value.ref b] s = true) (hgv : (Jvm.Cond.and given_1 narrow_1).before #[Value.ref b] s = true) : ∃ (dA : Nat → Nat) (D : va_G) (adK adV : Nat → Nat), ∀ Ω : OM, oDA Ω = dA → oD Ω = D → oK Ω = adK → oV Ω = adV → (∀ q : Nat, oA Ω q → s.heap.size ≤ q) → KK Ω s := by
  have hs := flat_of_before _ hgv
  have hA0 : ∀ a : Nat, a < s.heap.size → ¬ (fun q : Nat => s.heap.size ≤ q) a := fun a h => Nat.not_le.mpr h
  obtain ⟨adK, adV, hvS, hev⟩ := vk_Sof (N := 23) (tm := tmS) (len := slen) (byt := sbyt) (A := fun q : Nat => s.heap.size ≤ q) (by decide) (fun i hi => hs _ (en_ex i hi)) (fun i hi => hs _ (en_co i hi)) (fun i hi => hs _ (en_ar i hi)) (fun i hi => hs _ (en_le i hi)) (fun i hi j hj => hs _ (en_el i hi j hj)) (fun i j hi hj hij => (en_ne i hi j hj hij).imp (fun h => hs _ h) (fun h => hs _ h)) hA0
  obtain ⟨t, ht, hT⟩ := va_Tof (tm := .static RX7 "LEVEL" "[I") (ty := .int) (N := 16) (f := fun j => .int (levT.getD j 0)) (A := fun q : Nat => s.heap.size ≤ q) (by decide) (hs _ en_misc.1) (va_eqt (hs _ en_misc.2.1)) (fun j hj => va_eqt (hs _ (en_lev j hj))) hA0
  have hZ := va_Zref (A := fun q : Nat => s.heap.size ≤ q) (hts _ en_tab.1) (hts _ en_tab.2.1) ht hA0
  have hC := va_Zof (A := fun q : Nat => s.heap.size ≤ q) (hts _ en_tab.2.2.1) (hts _ en_tab.2.2.2.1) (va_eqi (hs _ en_misc.2.2.1)) hA0
  have hI := va_Zqof (A := fun q : Nat => s.heap.size ≤ q) (hts _ en_tab.2.2.2.2.1) (hts _ en_tab.2.2.2.2.2.1) (hs _ en_misc.2.2.2) hA0
  obtain ⟨tI, hI⟩ : ∃ tI : Nat, va_Z "jdk/internal/util/Preconditions" "SIOOBE_FORMATTER" "Ljava/util/function/BiFunction;" .null (fun q : Nat => s.heap.size ≤ q) s s.heap ∨ va_Z "jdk/internal/util/Preconditions" "SIOOBE_FORMATTER" "Ljava/util/function/BiFunction;" (.ref tI) (fun q : Nat => s.heap.size ≤ q) s s.heap := by
    rcases hI with h | ⟨t2, h⟩
    · exact ⟨0, Or.inl h⟩
    · exact ⟨t2, Or.inr h⟩
  have hcls : ∀ ci : Nat, ∃ q : ClassId × (Nat → Nat), ci < 13 → u_Kn s (RF ci) (TF ci) (nf ci) q.1 q.2 := by
    intro ci
    by_cases h : ci < 13
    · obtain ⟨c, iS, hq⟩ := u_known (C := RF ci) (T := TF ci) (N := nf ci) (n := nf ci) (ws := gd_tbl) (fun w hw => hts w (List.mem_filter.mp hw).1) (inG ci h) (hts _ (en_inst ci h))
      exact ⟨(c, iS), fun _ => hq⟩
    · exact ⟨(0, fun _ => 0), fun h2 => absurd h2 h⟩
  obtain ⟨f, hf⟩ := Classical.axiomOfChoice hcls
  obtain ⟨c0, k0⟩ := arr_prim (hts _ (List.mem_filter.mp wa_int).1) (fun C h => by cases h)
  obtain ⟨c1, k1⟩ := arr_prim (hts _ (List.mem_filter.mp wa_byte).1) (fun C h => by cases h)
  obtain ⟨c2, k2⟩ := arr_prim (hts _ (List.mem_filter.mp wa_boolean).1) (fun C h => by cases h)
  obtain ⟨c3, k3⟩ := arr_prim (hts _ (List.mem_filter.mp wa_long).1) (fun C h => by cases h)
  have o4 := hts _ en_tab.2.2.2.2.2.2.1
  have o5 := hts _ en_tab.2.2.2.2.2.2.2.1
  have o6 := hts _ en_tab.2.2.2.2.2.2.2.2
  obtain ⟨c4, k4⟩ := arr_obj o4
  obtain ⟨c5, k5⟩ := arr_obj o5
  obtain ⟨c6, k6⟩ := arr_obj o6
  refine ⟨fun k => [c0, c1, c2, c3, c4, c5, c6].getD k 0, (fun k => (f k).1, fun k => (f k).2), fun i => if i = 100 then t else if i = 101 then tI else adK i, adV, ?_⟩
  intro Ω eA eD eK eV hO
  have eK100 : oK Ω 100 = t := by rw [eK]; rfl
  have eK101 : oK Ω 101 = tI := by rw [eK]; rfl
  have eKi : ∀ i : Nat, i < 23 → oK Ω i = adK i := by
    intro i hi
    rw [eK]
    show (if i = 100 then t else if i = 101 then tI else adK i) = adK i
    rw [if_neg (by omega), if_neg (by omega)]
  refine ⟨⟨?_, ?_⟩, fun w hw => ?_, fun i q hq => ?_, ?_, ?_, ?_, va_Z.narrow hC hO, ?_, va_AO.of o4, va_AO.of o5, va_AO.of o6⟩
  · intro c q hq
    have hc : c < 13 := (List.getElem?_eq_some_iff.mp hq).1
    have hq2 : q = (RF c, TF c, nf c) := Option.some.inj (hq.symm.trans (cl_at c hc))
    subst hq2
    rw [eD]
    exact hf c hc
  · intro k q hq
    have hk : k < 7 := (List.getElem?_eq_some_iff.mp hq).1
    simp only [tyL, eA] at hq
    match k, hk, hq with
    | 0, _, hq => cases hq; exact k0
    | 1, _, hq => cases hq; exact k1
    | 2, _, hq => cases hq; exact k2
    | 3, _, hq => cases hq; exact k3
    | 4, _, hq => cases hq; exact k4
    | 5, _, hq => cases hq; exact k5
    | 6, _, hq => cases hq; exact k6
    | k + 7, h, _ => exact absurd h (by omega)
  · have h2 := hts w (en_nest w hw)
    simp only [nestL, List.mem_cons, List.not_mem_nil, or_false] at hw
    rcases hw with e | e | e | e | e | e <;> (subst e; exact va_Nw.of rfl h2)
  · obtain ⟨hi, hq2⟩ := strT_at i q hq
    have h1 := hts _ (en_sr i hi)
    have h2 := hev i hi
    rw [eKi i hi]
    unfold tmS at h2
    rw [hq2] at h1 h2
    exact va_R0 h1 h2
  · refine vk_S.narrow (A := fun q : Nat => s.heap.size ≤ q) ⟨fun i hi => ?_, fun i j hi hj hij => ?_⟩ hO
    · rw [eKi i hi, eV]
      exact hvS.1 i hi
    · rw [eKi i hi, eKi j hj] at hij
      exact hvS.2 i j hi hj hij
  · rw [eK100]; exact va_Z.narrow hZ hO
  · rw [eK100]; exact va_T.narrow hT hO
  · rw [eK101]
    exact hI.imp (fun h => va_Z.narrow h hO) (fun h => va_Z.narrow h hO)
