/-! ===== rules: rows, new cells, copies ===== -/
section GA
variable {X : CX} {Ω : OM} {own : String} {cc : ByteArray} {nL mc ms : Nat} {ret : Option FieldType} {rm : Room} {β : Type} {em : β → Option Value × MS} {u v pc pc' : Nat} {L L' : List (Nat × Value)} {st : List Value} {σ : MS} {E E1 E2 : Option β}
theorem g_iald {a n j : Nat} {i : Int32} (hX : CF X Ω own cc nL ret rm) (hd : Dc cc pc .iaload 1 pc') (ht : tf Ω σ a (0, n)) (hin : inb i n) (hj : i.toNatClampNeg = j) (kk : GE X Ω nL mc ms em u v pc' L (.int (sI σ a j) :: st) σ E) : GE X Ω nL mc ms em u v pc L (.int i :: .ref a :: st) σ E := by
  obtain ⟨p, l, e, R, s, m, args, below, meth, c⟩ := X
  obtain ⟨hx, hb, hml, hr, hown, hts, hlk, hR0, hK, hO, hA⟩ := hX
  obtain ⟨hd, rfl⟩ := hd
  intro out hE H locs ls hR hS hL
  obtain ⟨h1, h2⟩ := hR.tf ht
  have hw := wsO_at Ω h1
  rw [cell_int Ω h2 (by decide)] at hw
  subst hj
  exact va_iald hx hb hK.1 hR.1 a 0 hw rfl hin hd (kk out hE H locs ls hR hS hL)
theorem g_bald {a n j : Nat} {i : Int32} (hX : CF X Ω own cc nL ret rm) (hd : Dc cc pc .baload 1 pc') (ht : tf Ω σ a (1, n)) (hin : inb i n) (hj : i.toNatClampNeg = j) (kk : GE X Ω nL mc ms em u v pc' L (.int (sI σ a j) :: st) σ E) : GE X Ω nL mc ms em u v pc L (.int i :: .ref a :: st) σ E := by
  obtain ⟨p, l, e, R, s, m, args, below, meth, c⟩ := X
  obtain ⟨hx, hb, hml, hr, hown, hts, hlk, hR0, hK, hO, hA⟩ := hX
  obtain ⟨hd, rfl⟩ := hd
  intro out hE H locs ls hR hS hL
  obtain ⟨h1, h2⟩ := hR.tf ht
  have hw := wsO_at Ω h1
  rw [cell_int Ω h2 (by decide)] at hw
  subst hj
  exact va_bald hx hb hK.1 hR.1 a 1 hw rfl hin hd (kk out hE H locs ls hR hS hL)
theorem g_zald {a n j : Nat} {i : Int32} (hX : CF X Ω own cc nL ret rm) (hd : Dc cc pc .baload 1 pc') (ht : tf Ω σ a (2, n)) (hin : inb i n) (hj : i.toNatClampNeg = j) (kk : GE X Ω nL mc ms em u v pc' L (.int (sI σ a j) :: st) σ E) : GE X Ω nL mc ms em u v pc L (.int i :: .ref a :: st) σ E := by
  obtain ⟨p, l, e, R, s, m, args, below, meth, c⟩ := X
  obtain ⟨hx, hb, hml, hr, hown, hts, hlk, hR0, hK, hO, hA⟩ := hX
  obtain ⟨hd, rfl⟩ := hd
  intro out hE H locs ls hR hS hL
  obtain ⟨h1, h2⟩ := hR.tf ht
  have hw := wsO_at Ω h1
  rw [cell_int Ω h2 (by decide)] at hw
  subst hj
  exact va_zald hx hb hK.1 hR.1 a 2 hw rfl hin hd (kk out hE H locs ls hR hS hL)
theorem g_lald {a n j : Nat} {i : Int32} (hX : CF X Ω own cc nL ret rm) (hd : Dc cc pc .laload 1 pc') (ht : tf Ω σ a (3, n)) (hin : inb i n) (hj : i.toNatClampNeg = j) (kk : GE X Ω nL mc ms em u v pc' L (.long (sJ σ a j) :: st) σ E) : GE X Ω nL mc ms em u v pc L (.int i :: .ref a :: st) σ E := by
  obtain ⟨p, l, e, R, s, m, args, below, meth, c⟩ := X
  obtain ⟨hx, hb, hml, hr, hown, hts, hlk, hR0, hK, hO, hA⟩ := hX
  obtain ⟨hd, rfl⟩ := hd
  intro out hE H locs ls hR hS hL
  obtain ⟨h1, h2⟩ := hR.tf ht
  have hw := wsO_at Ω h1
  rw [cell_long Ω h2] at hw
  subst hj
  exact va_lald hx hb hK.1 hR.1 a 3 hw rfl hin hd (kk out hE H locs ls hR hS hL)
theorem g_aald {a n j kd : Nat} {C : String} {i : Int32} {F : Nat → Option β} (hX : CF X Ω own cc nL ret rm) (hd : Dc cc pc .aaload 1 pc') (ht : tf Ω σ a (kd, n)) (hkd : 3 < kd ∧ kd < 7) (hC : (tyL Ω)[kd]? = some (oDA Ω kd, .object C)) (hin : inb i n) (hj : i.toNatClampNeg = j) (k0 : sR σ a j = none → GE X Ω nL mc ms em u v pc' L (.null :: st) σ E) (k1 : ∀ b : Nat, sR σ a j = some b → GE X Ω nL mc ms em u v pc' L (.ref b :: st) σ (F b)) : GE X Ω nL mc ms em u v pc L (.int i :: .ref a :: st) σ (onr (sR σ a j) E F) := by
  obtain ⟨p, l, e, R, s, m, args, below, meth, c⟩ := X
  obtain ⟨hx, hb, hml, hr, hown, hts, hlk, hR0, hK, hO, hA⟩ := hX
  obtain ⟨hd, rfl⟩ := hd
  intro out hE H locs ls hR hS hL
  obtain ⟨h1, h2⟩ := hR.tf ht
  have hw := wsO_at Ω h1
  rw [cell_ref Ω h2 hkd.1 hkd.2] at hw
  subst hj
  refine va_aldq hx hb hK.1 hR.1 a kd hw hC hin hd ?_
  cases h : sR σ a i.toNatClampNeg with
  | none =>
    rw [h] at hE
    exact k0 h out hE H locs ls hR hS hL
  | some b =>
    rw [h] at hE
    exact k1 b h out hE H locs ls hR hS hL
theorem g_iast {a n j : Nat} {i x : Int32} (hX : CF X Ω own cc nL ret rm) (hd : Dc cc pc .iastore 1 pc') (ht : tf Ω σ a (0, n)) (hin : inb i n) (hj : i.toNatClampNeg = j) (kk : GE X Ω nL mc ms em u v pc' L st (wI σ a j x) E) : GE X Ω nL mc ms em u v pc L (.int x :: .int i :: .ref a :: st) σ E := by
  obtain ⟨p, l, e, R, s, m, args, below, meth, c⟩ := X
  obtain ⟨hx, hb, hml, hr, hown, hts, hlk, hR0, hK, hO, hA⟩ := hX
  obtain ⟨hd, rfl⟩ := hd
  intro out hE H locs ls hR hS hL
  obtain ⟨h1, h2⟩ := hR.tf ht
  have hw := wsO_at Ω h1
  have hA1 := hR.2.1.2 a _ hw
  rw [cell_int Ω h2 (by decide)] at hw
  subst hj
  have hc0 : H[oR Ω a]? = some (vp_cell (oDA Ω 0) (n, .inl (sI σ a))) := hR.1 a _ hw
  refine W.iast hx hb hc0 ((hK.1.2 0 _ rfl).1 n (fun j => .int (sI σ a j))) (fun q => by cases q) (by show ¬ (i < 0 ∨ (arrV _ _ _).slots.size ≤ _); rw [arrV_size]; exact hin) rfl rfl hd fun H1 e1 z oq => kk out hE H1 _ ls ?_ (hS.put z oq hA1) hL
  refine hR.put (σ' := wI σ a i.toNatClampNeg x) (e' := .inl (oDA Ω 0, n, .inl (fun q => if q = i.toNatClampNeg then x else sI σ a q))) h1 z oq ?_ rfl rfl ?_ (fun q hq => cell_of rfl (up2_rowN _ _ _ hq) rfl rfl)
  · show H1[oR Ω a]? = some (vp_cell _ _)
    rw [e1, vp_cell_i, vp_cell_i, arrV_store]
    congr 2
    funext q
    by_cases hq : q = i.toNatClampNeg
    · subst hq
      simp [updV, vp_nar]
      try rfl
    · simp [updV, hq]
  · rw [cell_int Ω (σ := wI σ a i.toNatClampNeg x) h2 (by decide)]
    show _ = Sum.inl (oDA Ω 0, n, Sum.inl (up2 (sI σ) a i.toNatClampNeg x a))
    rw [up2_row]
theorem g_bast {a n j : Nat} {i x : Int32} (hX : CF X Ω own cc nL ret rm) (hd : Dc cc pc .bastore 1 pc') (ht : tf Ω σ a (1, n)) (hin : inb i n) (hj : i.toNatClampNeg = j) (kk : GE X Ω nL mc ms em u v pc' L st (wI σ a j (vp_nar .byte x)) E) : GE X Ω nL mc ms em u v pc L (.int x :: .int i :: .ref a :: st) σ E := by
  obtain ⟨p, l, e, R, s, m, args, below, meth, c⟩ := X
  obtain ⟨hx, hb, hml, hr, hown, hts, hlk, hR0, hK, hO, hA⟩ := hX
  obtain ⟨hd, rfl⟩ := hd
  intro out hE H locs ls hR hS hL
  obtain ⟨h1, h2⟩ := hR.tf ht
  have hw := wsO_at Ω h1
  have hA1 := hR.2.1.2 a _ hw
  rw [cell_int Ω h2 (by decide)] at hw
  subst hj
  have hc0 : H[oR Ω a]? = some (vp_cell (oDA Ω 1) (n, .inl (sI σ a))) := hR.1 a _ hw
  refine W.bast hx hb hc0 ((hK.1.2 1 _ rfl).1 n (fun j => .int (sI σ a j))) (fun q => by cases q) (by show ¬ (i < 0 ∨ (arrV _ _ _).slots.size ≤ _); rw [arrV_size]; exact hin) rfl rfl hd fun H1 e1 z oq => kk out hE H1 _ ls ?_ (hS.put z oq hA1) hL
  refine hR.put (σ' := wI σ a i.toNatClampNeg (vp_nar .byte x)) (e' := .inl (oDA Ω 1, n, .inl (fun q => if q = i.toNatClampNeg then (vp_nar .byte x) else sI σ a q))) h1 z oq ?_ rfl rfl ?_ (fun q hq => cell_of rfl (up2_rowN _ _ _ hq) rfl rfl)
  · show H1[oR Ω a]? = some (vp_cell _ _)
    rw [e1, vp_cell_i, vp_cell_i, arrV_store]
    congr 2
    funext q
    by_cases hq : q = i.toNatClampNeg
    · subst hq
      simp [updV, vp_nar]
      try rfl
    · simp [updV, hq]
  · rw [cell_int Ω (σ := wI σ a i.toNatClampNeg (vp_nar .byte x)) h2 (by decide)]
    show _ = Sum.inl (oDA Ω 1, n, Sum.inl (up2 (sI σ) a i.toNatClampNeg (vp_nar .byte x) a))
    rw [up2_row]
theorem g_zast {a n j : Nat} {i x : Int32} (hX : CF X Ω own cc nL ret rm) (hd : Dc cc pc .bastore 1 pc') (ht : tf Ω σ a (2, n)) (hin : inb i n) (hj : i.toNatClampNeg = j) (kk : GE X Ω nL mc ms em u v pc' L st (wI σ a j (vp_nar .boolean x)) E) : GE X Ω nL mc ms em u v pc L (.int x :: .int i :: .ref a :: st) σ E := by
  obtain ⟨p, l, e, R, s, m, args, below, meth, c⟩ := X
  obtain ⟨hx, hb, hml, hr, hown, hts, hlk, hR0, hK, hO, hA⟩ := hX
  obtain ⟨hd, rfl⟩ := hd
  intro out hE H locs ls hR hS hL
  obtain ⟨h1, h2⟩ := hR.tf ht
  have hw := wsO_at Ω h1
  have hA1 := hR.2.1.2 a _ hw
  rw [cell_int Ω h2 (by decide)] at hw
  subst hj
  have hc0 : H[oR Ω a]? = some (vp_cell (oDA Ω 2) (n, .inl (sI σ a))) := hR.1 a _ hw
  refine W.zast hx hb hc0 ((hK.1.2 2 _ rfl).1 n (fun j => .int (sI σ a j))) (fun q => by cases q) (by show ¬ (i < 0 ∨ (arrV _ _ _).slots.size ≤ _); rw [arrV_size]; exact hin) rfl rfl hd fun H1 e1 z oq => kk out hE H1 _ ls ?_ (hS.put z oq hA1) hL
  refine hR.put (σ' := wI σ a i.toNatClampNeg (vp_nar .boolean x)) (e' := .inl (oDA Ω 2, n, .inl (fun q => if q = i.toNatClampNeg then (vp_nar .boolean x) else sI σ a q))) h1 z oq ?_ rfl rfl ?_ (fun q hq => cell_of rfl (up2_rowN _ _ _ hq) rfl rfl)
  · show H1[oR Ω a]? = some (vp_cell _ _)
    rw [e1, vp_cell_i, vp_cell_i, arrV_store]
    congr 2
    funext q
    by_cases hq : q = i.toNatClampNeg
    · subst hq
      simp [updV, vp_nar]
      try rfl
    · simp [updV, hq]
  · rw [cell_int Ω (σ := wI σ a i.toNatClampNeg (vp_nar .boolean x)) h2 (by decide)]
    show _ = Sum.inl (oDA Ω 2, n, Sum.inl (up2 (sI σ) a i.toNatClampNeg (vp_nar .boolean x) a))
    rw [up2_row]
theorem g_last {a n j : Nat} {i : Int32} {x : Int64} (hX : CF X Ω own cc nL ret rm) (hd : Dc cc pc .lastore 1 pc') (ht : tf Ω σ a (3, n)) (hin : inb i n) (hj : i.toNatClampNeg = j) (kk : GE X Ω nL mc ms em u v pc' L st (wJ σ a j x) E) : GE X Ω nL mc ms em u v pc L (.long x :: .int i :: .ref a :: st) σ E := by
  obtain ⟨p, l, e, R, s, m, args, below, meth, c⟩ := X
  obtain ⟨hx, hb, hml, hr, hown, hts, hlk, hR0, hK, hO, hA⟩ := hX
  obtain ⟨hd, rfl⟩ := hd
  intro out hE H locs ls hR hS hL
  obtain ⟨h1, h2⟩ := hR.tf ht
  have hw := wsO_at Ω h1
  have hA1 := hR.2.1.2 a _ hw
  rw [cell_long Ω h2] at hw
  subst hj
  have hc0 : H[oR Ω a]? = some (vp_cell (oDA Ω 3) (n, .inr (.inl (sJ σ a)))) := hR.1 a _ hw
  refine W.last hx hb hc0 ((hK.1.2 3 _ rfl).1 n (fun j => .long (sJ σ a j))) (fun q => by cases q) (by show ¬ (i < 0 ∨ (arrV _ _ _).slots.size ≤ _); rw [arrV_size]; exact hin) rfl rfl hd fun H1 e1 z oq => kk out hE H1 _ ls ?_ (hS.put z oq hA1) hL
  refine hR.put (σ' := wJ σ a i.toNatClampNeg x) (e' := .inl (oDA Ω 3, n, .inr (.inl (fun q => if q = i.toNatClampNeg then x else sJ σ a q)))) h1 z oq ?_ rfl rfl ?_ (fun q hq => cell_of rfl rfl (up2_rowN _ _ _ hq) rfl)
  · show H1[oR Ω a]? = some (vp_cell _ _)
    rw [e1, vp_cell_l, vp_cell_l, arrV_store]
    congr 2
    funext q
    by_cases hq : q = i.toNatClampNeg
    · subst hq
      simp [updV]
    · simp [updV, hq]
  · rw [cell_long Ω (σ := wJ σ a i.toNatClampNeg x) h2]
    show _ = Sum.inl (oDA Ω 3, n, Sum.inr (Sum.inl (up2 (sJ σ) a i.toNatClampNeg x a)))
    rw [up2_row]
theorem g_aast {a n j kd b ci n2 : Nat} {i : Int32} (hX : CF X Ω own cc nL ret rm) (hd : Dc cc pc .aastore 1 pc') (ht : tf Ω σ a (kd, n)) (hkd : 3 < kd ∧ kd < 7) (hC : (tyL Ω)[kd]? = some (oDA Ω kd, .object (RF ci))) (hci : ci < 13) (htb : tf Ω σ b (10 + ci, n2)) (hin : inb i n) (hj : i.toNatClampNeg = j) (kk : GE X Ω nL mc ms em u v pc' L st (wR σ a j (some b)) E) : GE X Ω nL mc ms em u v pc L (.ref b :: .int i :: .ref a :: st) σ E := by
  obtain ⟨p, l, e, R, s, m, args, below, meth, c⟩ := X
  obtain ⟨hx, hb, hml, hr, hown, hts, hlk, hR0, hK, hO, hA⟩ := hX
  obtain ⟨hd, rfl⟩ := hd
  intro out hE H locs ls hR hS hL
  obtain ⟨h1, h2⟩ := hR.tf ht
  have hw := wsO_at Ω h1
  have hA1 := hR.2.1.2 a _ hw
  obtain ⟨b1, b2⟩ := hR.tf htb
  have hwb := wsO_at Ω b1
  rw [cell_obj Ω b2 hci] at hwb
  rw [cell_ref Ω h2 hkd.1 hkd.2] at hw
  subst hj
  have hlt : i.toNatClampNeg < n := Nat.not_le.mp fun q => hin (Or.inr q)
  have h0 : ¬ i < 0 := fun q => hin (Or.inl q)
  have hc0 : H[oR Ω a]? = some (vp_cell (oDA Ω kd) (n, .inr (.inr (.inr (.inr (fun j => (sR σ a j).map (oR Ω))))))) := hR.1 a _ hw
  obtain ⟨r', hr', cellV, g1, g2, g3, -⟩ := hR.1 b _ hwb
  have hcls := (hK.1.1 ci _ (cl_at ci hci)).2
  obtain ⟨kA, comp, k1, k2, k3, -⟩ := (hK.1.2 kd _ hC).2
  have hcomp : comp = (oD Ω).1 ci := Option.some.inj (k3.symm.trans hcls.1)
  subst hcomp
  obtain ⟨kC, hkC, -⟩ := hcls.2
  refine W.aast hx hb hc0 (fun q h => by cases h) (fun h => by cases h) k1 k2 rfl hkC ⟨h0, by show _ < (arrV _ _ _).slots.size; rw [arrV_size]; exact hlt⟩ g1 (fun q h => by rw [g3] at h; cases h) (by rw [g2]; exact hkC) (by rw [g2]; exact va_assign hcls) rfl rfl hd fun H1 e1 z oq => kk out hE H1 _ ls ?_ (hS.put z oq hA1) hL
  refine hR.put (σ' := wR σ a i.toNatClampNeg (some b)) (e' := .inl (oDA Ω kd, n, .inr (.inr (.inr (.inr (fun q => (if q = i.toNatClampNeg then some b else sR σ a q).map (oR Ω))))))) h1 z oq ?_ rfl rfl ?_ (fun q hq => cell_of rfl rfl rfl (up2_rowN _ _ _ hq))
  · show H1[oR Ω a]? = some (vp_cell _ _)
    rw [e1, vp_cell_q, vp_cell_q, arrV_store]
    congr 2
    funext q
    by_cases hq : q = i.toNatClampNeg
    · subst hq
      simp [updV, va_rf]
    · simp [updV, hq]
  · rw [cell_ref Ω (σ := wR σ a i.toNatClampNeg (some b)) h2 hkd.1 hkd.2]
    show _ = Sum.inl (oDA Ω kd, n, Sum.inr (Sum.inr (Sum.inr (Sum.inr (fun j => (up2 (sR σ) a i.toNatClampNeg (some b) a j).map (oR Ω))))))
    rw [up2_row]
theorem g_alen {a n kd : Nat} {w : Int32} (hX : CF X Ω own cc nL ret rm) (hd : Dc cc pc .arraylength 1 pc') (ht : tf Ω σ a (kd, n)) (hkd : kd < 3) (hv : Int32.ofNat n = w) (kk : GE X Ω nL mc ms em u v pc' L (.int w :: st) σ E) : GE X Ω nL mc ms em u v pc L (.ref a :: st) σ E := by
  obtain ⟨p, l, e, R, s, m, args, below, meth, c⟩ := X
  obtain ⟨hx, hb, hml, hr, hown, hts, hlk, hR0, hK, hO, hA⟩ := hX
  obtain ⟨hd, rfl⟩ := hd
  intro out hE H locs ls hR hS hL
  obtain ⟨h1, h2⟩ := hR.tf ht
  have hw := wsO_at Ω h1
  rw [cell_int Ω h2 hkd] at hw
  match kd, hkd, hw with
  | 0, _, hw => exact va_alen hx hb hK.1 hR.1 a 0 hw rfl hv hd (kk out hE H locs ls hR hS hL)
  | 1, _, hw => exact va_alen hx hb hK.1 hR.1 a 1 hw rfl hv hd (kk out hE H locs ls hR hS hL)
  | 2, _, hw => exact va_alen hx hb hK.1 hR.1 a 2 hw rfl hv hd (kk out hE H locs ls hR hS hL)
  | k + 3, h, _ => exact absurd h (by omega)
theorem al_S (σ : MS) (kd n : Nat) : sS (al σ kd n) (sN σ) = (kd, n) := up1_s _ _ _
theorem wsO_push (Ω : OM) (σ : MS) (kd n : Nat) : wsO Ω (al σ kd n) = wsO Ω σ ++ [(oR Ω (sN σ), cellE (oR Ω) (oDA Ω) (al σ kd n) (sN σ))] := by
  have h : wsO Ω (al σ kd n) = (List.range (sN σ + 1)).map (fun i => (oR Ω i, cellE (oR Ω) (oDA Ω) (al σ kd n) i)) := rfl
  rw [h, List.range_succ, List.map_append]
  congr 1
  apply List.map_congr_left
  intro i hi
  have hi' : i ≠ sN σ := Nat.ne_of_lt (List.mem_range.mp hi)
  rw [cell_of (σ' := al σ kd n) (σ := σ) (up1_n _ _ hi') (up1_n _ _ hi') (up1_n _ _ hi') (up1_n _ _ hi')]
theorem Rep.push {Ω : OM} {σ : MS} {H H1 : Heap} {kd n : Nat} (hR : Rep Ω σ H) (hal : oAl Ω) (hlt : sN σ < 1000000) (hO : OKO Ω) (hA : oA Ω H.size) (hz : H1.size = H.size + 1) (ho : ∀ q : Nat, q < H.size → H1[q]? = H[q]?) (he : va_at (oD Ω) classes (H.size, cellE (oR Ω) (oDA Ω) (al σ kd n) (sN σ)) H1) : Rep Ω (al σ kd n) H1 ∧ oR Ω (sN σ) = H.size := by
  obtain ⟨h1, h2, h3, h4⟩ := hR
  obtain ⟨h3, h5⟩ := h3.1 hal
  obtain ⟨o1, o2⟩ := hO.2.1 hal (sN σ) h3 hlt
  have hq : oR Ω (sN σ) = H.size := by rw [o1, h5]
  refine ⟨⟨?_, ?_, ⟨fun _ => ⟨Nat.le_trans h3 (Nat.le_succ _), ?_⟩, fun hn => absurd hal hn⟩, fun i q hi => ?_⟩, hq⟩
  · rw [wsO_push, hq]
    refine (h1.kept (fun k x hx => ho x.1 (h1 k x hx).lt)).app (fun k x hx => ?_)
    have hk : k < 1 := (List.getElem?_eq_some_iff.mp hx).1
    rw [show k = 0 by omega] at hx
    cases hx
    exact he
  · rw [wsO_push, hq]
    exact h2.push h1 rfl hA
  · rw [hz, h5]
    exact o2.symm
  · obtain ⟨a1, a2⟩ := h4 i q hi
    refine ⟨Nat.lt_succ_of_lt a1, ?_⟩
    rw [← a2]
    exact up1_n _ _ (Nat.ne_of_lt a1)
theorem dflt_ok : ∀ ci, ci < 13 → ∀ j, j < nf ci → defaultValue (tyF ci j) = if fk ci j = 0 then .int 0 else .null := by decide +kernel
theorem fk_le : ∀ ci, ci < 13 → ∀ j, j < nf ci → fk ci j = 0 ∨ fk ci j = 1 ∨ fk ci j = 2 := by decide +kernel
theorem g_new {idx ci : Nat} (hX : CF X Ω own cc nL ret rm) (hal : oAl Ω) (hlt : sN σ < 1000000) (hd : Dc cc pc (.new idx) 3 pc') (hcl : Cond.classLink own idx (RF ci) ∈ gd_tbl) (hin : Cond.instantiable (RF ci) (nf ci) ∈ gd_tbl) (hini : Cond.initialized (RF ci) ∈ gd_tbl) (hci : ci < 13) (hc : u + 1 ≤ rm.cells) (hs : v + nf ci ≤ rm.slots) (kk : (oSH Ω).length ≤ sN σ → GE X Ω nL mc ms em (u + 1) (v + nf ci) pc' L (.ref (sN σ) :: st) (al σ (30 + ci) 0) E) : GE X Ω nL mc ms em u v pc L st σ E := by
  obtain ⟨p, l, e, R, s, m, args, below, meth, c⟩ := X
  obtain ⟨hx, hb, hml, hr, hown, hts, hlk, hR0, hK, hO, hA⟩ := hX
  obtain ⟨hd, rfl⟩ := hd
  subst hR0
  intro out hE H locs ls hR hS hL
  have hAn := hA hal H.size hS.1
  have hq0 : oR Ω (sN σ) = H.size := by rw [(hO.2.1 hal (sN σ) (hR.2.2.1.1 hal).1 hlt).1, (hR.2.2.1.1 hal).2]
  have hKn := hK.1.1 ci _ (cl_at ci hci)
  refine W.newcK hx hb hown (hts _ hcl) (hts _ hin) (hts _ hini) rfl hd hc hs hKn.2.1 rfl fun H1 kC hkC e1 z1 o1 => ?_
  have hat : va_at (oD Ω) classes (H.size, cellE (oR Ω) (oDA Ω) (al σ (30 + ci) 0) (sN σ)) H1 := by
    rw [cell_raw Ω (σ := al σ (30 + ci) 0) (n := 0) (al_S _ _ _)]
    refine ⟨_, cl_at ci hci, (u_born (tyF ci) hts (inG ci hci) hKn hkC e1 (tyG ci hci)).to (fun j hj => ?_)⟩
    have hv : vp_V ((List.range (nf ci)).map (fun k => cR (oR Ω) (fv (al σ (30 + ci) 0) true ci k (sN σ)))) j = cR (oR Ω) (fv (al σ (30 + ci) 0) true ci j (sN σ)) := by simp [vp_V, hj]
    rw [dflt_ok ci hci j hj, hv]
    have eI : sI (al σ (30 + ci) 0) (sN σ) j = 0 := by
      exact congrFun (up1_s (sI σ) (sN σ) (fun _ => (0 : Int32))) j
    have eR : sR (al σ (30 + ci) 0) (sN σ) j = none := by
      exact congrFun (up1_s (sR σ) (sN σ) (fun _ => (none : Option Nat))) j
    rcases fk_le ci hci j hj with h | h | h
    · rw [fv_int h, eI, if_pos h]; rfl
    · rw [fv_nul (Or.inl h), eR, if_neg (by omega)]; rfl
    · rw [fv_nul (Or.inr ⟨h, rfl⟩), eR, if_neg (by omega)]; rfl
  obtain ⟨hR1, hq⟩ := hR.push hal hlt hO hAn z1 o1 hat
  have hS1 : va_S (oA Ω) s.heap H1 locs := ⟨Nat.le_trans hS.1 (by omega), fun q g1 g2 => (o1 q (Nat.lt_of_lt_of_le g1 hS.1)).trans (hS.2.1 q g1 g2), hS.2.2⟩
  have := kk (Nat.le_trans hO.2.2.2.2 (hR.2.2.1.1 hal).1) out hE H1 locs ls hR1 hS1 hL
  rw [← hq]
  exact this
theorem g_newa_int {n : Int32} {N : Nat} (hX : CF X Ω own cc nL ret rm) (hal : oAl Ω) (hlt : sN σ < 1000000) (hd : Dc cc pc (.newarray .int) 2 pc') (hw : Cond.arrayClass .int ∈ gd_tbl) (hn : ¬ n < 0) (hN : n.toNatClampNeg = N) (hby : N * componentBytes .int ≤ 536870912) (hc : u + 1 ≤ rm.cells) (hs : v + N ≤ rm.slots) (kk : GE X Ω nL mc ms em (u + 1) (v + N) pc' L (.ref (sN σ) :: st) (al σ 0 N) E) : GE X Ω nL mc ms em u v pc L (.int n :: st) σ E := by
  obtain ⟨p, l, e, R, s, m, args, below, meth, c⟩ := X
  obtain ⟨hx, hb, hml, hr, hown, hts, hlk, hR0, hK, hO, hA⟩ := hX
  obtain ⟨hd, rfl⟩ := hd
  subst hR0
  intro out hE H locs ls hR hS hL
  have hAn := hA hal H.size hS.1
  have hq0 : oR Ω (sN σ) = H.size := by rw [(hO.2.1 hal (sN σ) (hR.2.2.1.1 hal).1 hlt).1, (hR.2.2.1.1 hal).2]
  refine va_newaK hx hb (atype := .int) (hts _ hw) rfl hd rfl hn hN hby hc hs rfl fun H1 cA e1 z1 o1 hAr hNm => ?_
  have hcA : cA = oDA Ω 0 := Option.some.inj (hNm.symm.trans (hK.1.2 0 _ rfl).2)
  subst hcA
  have hz : sI (al σ 0 N) (sN σ) = fun _ => (0 : Int32) := up1_s _ _ _
  have hat : va_at (oD Ω) classes (H.size, cellE (oR Ω) (oDA Ω) (al σ 0 N) (sN σ)) H1 := by
    rw [cell_int Ω (σ := al σ 0 N) (n := N) (al_S _ _ _) (by decide), hz]
    exact e1
  obtain ⟨hR1, hq⟩ := hR.push hal hlt hO hAn z1 o1 hat
  have hS1 : va_S (oA Ω) s.heap H1 locs := ⟨Nat.le_trans hS.1 (by omega), fun q g1 g2 => (o1 q (Nat.lt_of_lt_of_le g1 hS.1)).trans (hS.2.1 q g1 g2), hS.2.2⟩
  have := kk out hE H1 locs ls hR1 hS1 hL
  rw [← hq]
  exact this
theorem g_newa_byte {n : Int32} {N : Nat} (hX : CF X Ω own cc nL ret rm) (hal : oAl Ω) (hlt : sN σ < 1000000) (hd : Dc cc pc (.newarray .byte) 2 pc') (hw : Cond.arrayClass .byte ∈ gd_tbl) (hn : ¬ n < 0) (hN : n.toNatClampNeg = N) (hby : N * componentBytes .byte ≤ 536870912) (hc : u + 1 ≤ rm.cells) (hs : v + N ≤ rm.slots) (kk : GE X Ω nL mc ms em (u + 1) (v + N) pc' L (.ref (sN σ) :: st) (al σ 1 N) E) : GE X Ω nL mc ms em u v pc L (.int n :: st) σ E := by
  obtain ⟨p, l, e, R, s, m, args, below, meth, c⟩ := X
  obtain ⟨hx, hb, hml, hr, hown, hts, hlk, hR0, hK, hO, hA⟩ := hX
  obtain ⟨hd, rfl⟩ := hd
  subst hR0
  intro out hE H locs ls hR hS hL
  have hAn := hA hal H.size hS.1
  have hq0 : oR Ω (sN σ) = H.size := by rw [(hO.2.1 hal (sN σ) (hR.2.2.1.1 hal).1 hlt).1, (hR.2.2.1.1 hal).2]
  refine va_newaK hx hb (atype := .byte) (hts _ hw) rfl hd rfl hn hN hby hc hs rfl fun H1 cA e1 z1 o1 hAr hNm => ?_
  have hcA : cA = oDA Ω 1 := Option.some.inj (hNm.symm.trans (hK.1.2 1 _ rfl).2)
  subst hcA
  have hz : sI (al σ 1 N) (sN σ) = fun _ => (0 : Int32) := up1_s _ _ _
  have hat : va_at (oD Ω) classes (H.size, cellE (oR Ω) (oDA Ω) (al σ 1 N) (sN σ)) H1 := by
    rw [cell_int Ω (σ := al σ 1 N) (n := N) (al_S _ _ _) (by decide), hz]
    exact e1
  obtain ⟨hR1, hq⟩ := hR.push hal hlt hO hAn z1 o1 hat
  have hS1 : va_S (oA Ω) s.heap H1 locs := ⟨Nat.le_trans hS.1 (by omega), fun q g1 g2 => (o1 q (Nat.lt_of_lt_of_le g1 hS.1)).trans (hS.2.1 q g1 g2), hS.2.2⟩
  have := kk out hE H1 locs ls hR1 hS1 hL
  rw [← hq]
  exact this
theorem g_newa_boolean {n : Int32} {N : Nat} (hX : CF X Ω own cc nL ret rm) (hal : oAl Ω) (hlt : sN σ < 1000000) (hd : Dc cc pc (.newarray .boolean) 2 pc') (hw : Cond.arrayClass .boolean ∈ gd_tbl) (hn : ¬ n < 0) (hN : n.toNatClampNeg = N) (hby : N * componentBytes .boolean ≤ 536870912) (hc : u + 1 ≤ rm.cells) (hs : v + N ≤ rm.slots) (kk : GE X Ω nL mc ms em (u + 1) (v + N) pc' L (.ref (sN σ) :: st) (al σ 2 N) E) : GE X Ω nL mc ms em u v pc L (.int n :: st) σ E := by
  obtain ⟨p, l, e, R, s, m, args, below, meth, c⟩ := X
  obtain ⟨hx, hb, hml, hr, hown, hts, hlk, hR0, hK, hO, hA⟩ := hX
  obtain ⟨hd, rfl⟩ := hd
  subst hR0
  intro out hE H locs ls hR hS hL
  have hAn := hA hal H.size hS.1
  have hq0 : oR Ω (sN σ) = H.size := by rw [(hO.2.1 hal (sN σ) (hR.2.2.1.1 hal).1 hlt).1, (hR.2.2.1.1 hal).2]
  refine va_newaK hx hb (atype := .boolean) (hts _ hw) rfl hd rfl hn hN hby hc hs rfl fun H1 cA e1 z1 o1 hAr hNm => ?_
  have hcA : cA = oDA Ω 2 := Option.some.inj (hNm.symm.trans (hK.1.2 2 _ rfl).2)
  subst hcA
  have hz : sI (al σ 2 N) (sN σ) = fun _ => (0 : Int32) := up1_s _ _ _
  have hat : va_at (oD Ω) classes (H.size, cellE (oR Ω) (oDA Ω) (al σ 2 N) (sN σ)) H1 := by
    rw [cell_int Ω (σ := al σ 2 N) (n := N) (al_S _ _ _) (by decide), hz]
    exact e1
  obtain ⟨hR1, hq⟩ := hR.push hal hlt hO hAn z1 o1 hat
  have hS1 : va_S (oA Ω) s.heap H1 locs := ⟨Nat.le_trans hS.1 (by omega), fun q g1 g2 => (o1 q (Nat.lt_of_lt_of_le g1 hS.1)).trans (hS.2.1 q g1 g2), hS.2.2⟩
  have := kk out hE H1 locs ls hR1 hS1 hL
  rw [← hq]
  exact this
theorem g_newa_long {n : Int32} {N : Nat} (hX : CF X Ω own cc nL ret rm) (hal : oAl Ω) (hlt : sN σ < 1000000) (hd : Dc cc pc (.newarray .long) 2 pc') (hw : Cond.arrayClass .long ∈ gd_tbl) (hn : ¬ n < 0) (hN : n.toNatClampNeg = N) (hby : N * componentBytes .long ≤ 536870912) (hc : u + 1 ≤ rm.cells) (hs : v + N ≤ rm.slots) (kk : GE X Ω nL mc ms em (u + 1) (v + N) pc' L (.ref (sN σ) :: st) (al σ 3 N) E) : GE X Ω nL mc ms em u v pc L (.int n :: st) σ E := by
  obtain ⟨p, l, e, R, s, m, args, below, meth, c⟩ := X
  obtain ⟨hx, hb, hml, hr, hown, hts, hlk, hR0, hK, hO, hA⟩ := hX
  obtain ⟨hd, rfl⟩ := hd
  subst hR0
  intro out hE H locs ls hR hS hL
  have hAn := hA hal H.size hS.1
  have hq0 : oR Ω (sN σ) = H.size := by rw [(hO.2.1 hal (sN σ) (hR.2.2.1.1 hal).1 hlt).1, (hR.2.2.1.1 hal).2]
  refine va_newaK hx hb (atype := .long) (hts _ hw) rfl hd rfl hn hN hby hc hs rfl fun H1 cA e1 z1 o1 hAr hNm => ?_
  have hcA : cA = oDA Ω 3 := Option.some.inj (hNm.symm.trans (hK.1.2 3 _ rfl).2)
  subst hcA
  have hz : sJ (al σ 3 N) (sN σ) = fun _ => (0 : Int64) := up1_s _ _ _
  have hat : va_at (oD Ω) classes (H.size, cellE (oR Ω) (oDA Ω) (al σ 3 N) (sN σ)) H1 := by
    rw [cell_long Ω (σ := al σ 3 N) (n := N) (al_S _ _ _), hz]
    exact e1
  obtain ⟨hR1, hq⟩ := hR.push hal hlt hO hAn z1 o1 hat
  have hS1 : va_S (oA Ω) s.heap H1 locs := ⟨Nat.le_trans hS.1 (by omega), fun q g1 g2 => (o1 q (Nat.lt_of_lt_of_le g1 hS.1)).trans (hS.2.1 q g1 g2), hS.2.2⟩
  have := kk out hE H1 locs ls hR1 hS1 hL
  rw [← hq]
  exact this
end GA
