/-! ===== rules for texts ===== -/
abbrev emPV (σ : MS) : Unit → Option Value × MS := fun _ => (none, σ)
section GT
variable {X : CX} {Ω : OM} {own : String} {cc : ByteArray} {nL mc ms : Nat} {ret : Option FieldType} {rm : Room} {β : Type} {em : β → Option Value × MS} {u v pc pc' : Nat} {L L' : List (Nat × Value)} {st : List Value} {σ : MS} {E E1 E2 : Option β}
theorem ldcwS {p : Program} {l : Launch} {e : Env} {R : Room} {s : State} {m : MethodId} {args : Array Value} {below : List Frame} {meth : Method} {c : Code} {H : Heap} {locs : List Loc} {Q : State → Prop} {ls : Array Slot} {rest : List Value} {tx : String} {index q : Nat} (hx : p.tables.exec = Jvm.exec) (hb : c.code = cc) (hown : s.vm.findClass own = some m.cls) (hZ : vk_R own index tx q s) (hdg : decode cc pc = .ok (.ldc_w index, 3)) (k : W p l e R s m args below meth c H locs u v Q (F0 m (pc + 3) ls (.ref q :: rest))) : W p l e R s m args below meth c H locs u v Q (F0 m pc ls rest) := by
  intro T hT X
  obtain ⟨t, a1, b1⟩ := k T hT X
  refine ⟨t, ?_, b1⟩
  obtain ⟨kk, cf, i, a', hk, hcf, hcp, -, hr, hev'⟩ := Cond.stringRef_spec (args := #[]) hown hZ.1
  cases hZ.2.symm.trans hev'
  obtain ⟨k', hk', he⟩ := X.warmed.alike.2.2 _ _ hk
  have hr' : k'.resolved[index]? = some (some (.string q)) := by
    rcases X.warmed.entry hk hk' index with h | ⟨h, -⟩
    · rw [h]; exact hr
    · rw [hr] at h; cases h
  subst hb
  jvm_step X.here [hx, hdg, ldc_w.wp_string (e := e) (s := T) (f := F0 m pc ls rest) X.here.top hk' (by rw [he]; exact hcf) hcp hr']
  exact a1
theorem g_ldcwS {idx i : Nat} {tx : String} (hX : CF X Ω own cc nL ret rm) (hd : Dc cc pc (.ldc_w idx) 3 pc') (hi : i < 23) (hq : strT[i]? = some (own, idx, tx)) (k : GE X Ω nL mc ms em u v pc' L (.ref (1000000 + i) :: st) σ E) : GE X Ω nL mc ms em u v pc L st σ E := by
  obtain ⟨p, l, e, R, s, m, args, below, meth, c⟩ := X
  obtain ⟨hx, hb, hml, hr, hown, hts, hlk, hR0, hK, hO, hA⟩ := hX
  obtain ⟨hd, rfl⟩ := hd
  intro out hE H locs ls hR hS hL
  have h1 := k out hE H locs ls hR hS hL
  have h2 : oR Ω (1000000 + i) = oK Ω i := hO.2.2.1 i (Or.inl hi)
  refine ldcwS hx hb hown (hK.2.2.1 i _ hq) hd ?_
  rw [← h2]
  exact h1
theorem g_sval {idx i : Nat} (hX : CF X Ω own cc nL ret rm) (hd : Dc cc pc (.getfield idx) 3 pc') (hl : Cond.fieldLink own idx "java/lang/String" "value" "[B" ∈ gd_tbl) (hi : i < 23) (k : GE X Ω nL mc ms em u v pc' L (.ref (1000200 + i) :: st) σ E) : GE X Ω nL mc ms em u v pc L (.ref (1000000 + i) :: st) σ E := by
  obtain ⟨p, l, e, R, s, m, args, below, meth, c⟩ := X
  obtain ⟨hx, hb, hml, hr, hown, hts, hlk, hR0, hK, hO, hA⟩ := hX
  obtain ⟨hd, rfl⟩ := hd
  intro out hE H locs ls hR hS hL
  have h1 := k out hE H locs ls hR hS hL
  have h2 : oR Ω (1000000 + i) = oK Ω i := hO.2.2.1 i (Or.inl hi)
  have h3 : oR Ω (1000200 + i) = oV Ω i := hO.2.2.2.1 i hi
  show W p l e R s m args below meth c H locs u v _ (F0 m pc ls (.ref (oR Ω (1000000 + i)) :: st.map (cR (oR Ω))))
  rw [h2]
  refine vk_getf hx hb (hK.2.2.2.1.1 i hi).2.2.1 hS hown (hts _ hl) (fun _ h => h) hd ?_
  rw [← h3]
  exact h1
theorem g_scod {idx i : Nat} (hX : CF X Ω own cc nL ret rm) (hd : Dc cc pc (.getfield idx) 3 pc') (hl : Cond.fieldLink own idx "java/lang/String" "coder" "B" ∈ gd_tbl) (hi : i < 23) (k : GE X Ω nL mc ms em u v pc' L (.int 0 :: st) σ E) : GE X Ω nL mc ms em u v pc L (.ref (1000000 + i) :: st) σ E := by
  obtain ⟨p, l, e, R, s, m, args, below, meth, c⟩ := X
  obtain ⟨hx, hb, hml, hr, hown, hts, hlk, hR0, hK, hO, hA⟩ := hX
  obtain ⟨hd, rfl⟩ := hd
  intro out hE H locs ls hR hS hL
  have h1 := k out hE H locs ls hR hS hL
  have h2 : oR Ω (1000000 + i) = oK Ω i := hO.2.2.1 i (Or.inl hi)
  show W p l e R s m args below meth c H locs u v _ (F0 m pc ls (.ref (oR Ω (1000000 + i)) :: st.map (cR (oR Ω))))
  rw [h2]
  exact vk_getf hx hb (hK.2.2.2.1.1 i hi).2.1 hS hown (hts _ hl) (fun _ h => h) hd h1
theorem g_salen {i : Nat} (hX : CF X Ω own cc nL ret rm) (hd : Dc cc pc .arraylength 1 pc') (hi : i < 23) (k : GE X Ω nL mc ms em u v pc' L (.int (Int32.ofNat (slen.getD i 0)) :: st) σ E) : GE X Ω nL mc ms em u v pc L (.ref (1000200 + i) :: st) σ E := by
  obtain ⟨p, l, e, R, s, m, args, below, meth, c⟩ := X
  obtain ⟨hx, hb, hml, hr, hown, hts, hlk, hR0, hK, hO, hA⟩ := hX
  obtain ⟨hd, rfl⟩ := hd
  intro out hE H locs ls hR hS hL
  have h1 := k out hE H locs ls hR hS hL
  have h3 : oR Ω (1000200 + i) = oV Ω i := hO.2.2.2.1 i hi
  show W p l e R s m args below meth c H locs u v _ (F0 m pc ls (.ref (oR Ω (1000200 + i)) :: st.map (cR (oR Ω))))
  rw [h3]
  exact va_tlen hx hb (hK.2.2.2.1.1 i hi).2.2.2 hS rfl hd h1
theorem g_sald {i : Nat} {j : Int32} (hX : CF X Ω own cc nL ret rm) (hd : Dc cc pc .baload 1 pc') (hi : i < 23) (hin : inb j (slen.getD i 0)) (k : GE X Ω nL mc ms em u v pc' L (.int ((sbyt.getD i []).getD (ix j) 0) :: st) σ E) : GE X Ω nL mc ms em u v pc L (.int j :: .ref (1000200 + i) :: st) σ E := by
  obtain ⟨p, l, e, R, s, m, args, below, meth, c⟩ := X
  obtain ⟨hx, hb, hml, hr, hown, hts, hlk, hR0, hK, hO, hA⟩ := hX
  obtain ⟨hd, rfl⟩ := hd
  intro out hE H locs ls hR hS hL
  have h1 := k out hE H locs ls hR hS hL
  have h3 : oR Ω (1000200 + i) = oV Ω i := hO.2.2.2.1 i hi
  show W p l e R s m args below meth c H locs u v _ (F0 m pc ls (.int j :: .ref (oR Ω (1000200 + i)) :: st.map (cR (oR Ω))))
  rw [h3]
  exact va_tb hx hb (hK.2.2.2.1.1 i hi).2.2.2 hS hin rfl hd h1
theorem g_gCS {idx : Nat} (hX : CF X Ω own cc nL ret rm) (hd : Dc cc pc (.getstatic idx) 3 pc') (hl : Cond.fieldLink own idx "java/lang/String" "COMPACT_STRINGS" "Z" ∈ gd_tbl) (k : GE X Ω nL mc ms em u v pc' L (.int 1 :: st) σ E) : GE X Ω nL mc ms em u v pc L st σ E := by
  obtain ⟨p, l, e, R, s, m, args, below, meth, c⟩ := X
  obtain ⟨hx, hb, hml, hr, hown, hts, hlk, hR0, hK, hO, hA⟩ := hX
  obtain ⟨hd, rfl⟩ := hd
  intro out hE H locs ls hR hS hL
  exact va_gets hx hb hK.2.2.2.2.2.2.1 hS hown (hts _ hl) (fun _ h => h) hd (k out hE H locs ls hR hS hL)
theorem g_gSI {idx : Nat} (hX : CF X Ω own cc nL ret rm) (hd : Dc cc pc (.getstatic idx) 3 pc') (hl : Cond.fieldLink own idx "jdk/internal/util/Preconditions" "SIOOBE_FORMATTER" "Ljava/util/function/BiFunction;" ∈ gd_tbl) (k : ∀ r : Option Nat, GE X Ω nL mc ms em u v pc' L (va_rf r :: st) σ E) : GE X Ω nL mc ms em u v pc L st σ E := by
  obtain ⟨p, l, e, R, s, m, args, below, meth, c⟩ := X
  obtain ⟨hx, hb, hml, hr, hown, hts, hlk, hR0, hK, hO, hA⟩ := hX
  obtain ⟨hd, rfl⟩ := hd
  intro out hE H locs ls hR hS hL
  rcases hK.2.2.2.2.2.2.2.1 with h | h
  · exact va_gets hx hb h hS hown (hts _ hl) (fun _ h => h) hd (k none out hE H locs ls hR hS hL)
  · have h1 := k (some 1000101) out hE H locs ls hR hS hL
    have h2 : oR Ω 1000101 = oK Ω 101 := hO.2.2.1 101 (Or.inr (Or.inr rfl))
    refine va_gets hx hb h hS hown (hts _ hl) (fun _ h => h) hd ?_
    rw [← h2]
    exact h1
theorem g_i2c {x : Int32} (hX : CF X Ω own cc nL ret rm) (hd : Dc cc pc .i2c 1 pc') (k : GE X Ω nL mc ms em u v pc' L (.int (x.toUInt32 % 65536).toInt32 :: st) σ E) : GE X Ω nL mc ms em u v pc L (.int x :: st) σ E := by
  obtain ⟨p, l, e, R, s, m, args, below, meth, c⟩ := X
  obtain ⟨hx, hb, hml, hr, hown, hts, -⟩ := hX
  obtain ⟨hd, rfl⟩ := hd
  refine g_pure ?_ k
  intro H locs ls Q hk
  exact lv_i2c hx hb hd rfl hk
/-- a call on a text -/
theorem g_callT {Ey : Option Int32} {K : Int32 → Option β} {y : MethodName} {cy : ByteArray} {ny n i idx : Nat} {ry : Option FieldType} {rmy : Room} {As st0 : List Value} (hX : CF X Ω own cc nL ret rm) (hd : Dc cc pc (.invokevirtual idx) 3 pc') (hl : MLk own idx y cy ny ry n) (hl2 : Cond.instanceMethod y ∈ gd_tbl ∧ Cond.selects "java/lang/String" y y ∈ gd_tbl) (hi : i < 23) (hC : Con Ω y cy ny ry rmy (emPI σ) (.ref (1000000 + i) :: As) σ Ey) (hst : st0 = As.reverse ++ .ref (1000000 + i) :: st) (hn : As.length = n) (hroom : rmIn rmy rm ny) (hz : rmy.cells = 0 ∧ rmy.slots = 0) (hc : u ≤ rm.cells ∧ v ≤ rm.slots) (hcat : (st.map fun w => w.category).sum ≤ 8)
    (kk : ∀ q : Int32, Ey = some q → GE X Ω nL mc ms em u v pc' L (.int q :: st) σ (K q)) : GE X Ω nL mc ms em u v pc L st0 σ (Ey.bind K) := by
  obtain ⟨p, l, e, R, s, m, args, below, meth, c⟩ := X
  obtain ⟨hx, hb, hml, hr, hown, hts, hlk, hR0, hK, hO, hA⟩ := hX
  obtain ⟨hd, rfl⟩ := hd
  subst hR0
  intro out hE H locs ls hR hS hL
  cases hEy : Ey with
  | none => rw [hEy] at hE; cases hE
  | some q =>
    rw [hEy] at hE
    have h2 : oR Ω (1000000 + i) = oK Ω i := hO.2.2.1 i (Or.inl hi)
    have hcc : u + rmy.cells ≤ R.cells ∧ v + rmy.slots ≤ R.slots := by rw [hz.1, hz.2]; exact hc
    refine after_call (q := q) (emy := emPI σ) hS (va_runV (As := As.map (cR (oR Ω))) (b := oR Ω (1000000 + i)) (rest := st.map (cR (oR Ω))) ⟨hx, hb, hml, hown, hts⟩ (hC l q hEy) ⟨callB_of n hts (wY_good hl.2.2.1) rfl rfl rfl (hts _ hl.2.1) (hts _ hl.1) hl.2.2.2 hroom, hts _ hl2.1, hts _ hl2.2⟩ ⟨pre_blind (y := y) (av := .ref (1000000 + i) :: As), by rw [h2]; exact vk_recv hK.2.2.2.1 hi hS, fun U hU hW => ⟨rfl, by rw [hU]; exact hR, hK.step hW (fun a h1 h2 => by rw [hU]; exact hS.2.1 a h1 h2), fun h q hq => hA h q (Nat.le_trans hS.1 (by rw [← hU]; exact hq))⟩⟩ rfl (by rw [List.length_map]; exact hn) hL.1 ?_ (lv_room (by rw [cat_sum]; exact hcat)) hd hcc) (fun H1 locs1 hR1 hS1 => ?_)
    · show st0.map (cR (oR Ω)) = _
      rw [hst]
      simp [List.map_append, List.map_reverse, cR]
    · have h5 := kk q hEy out hE H1 locs1 ls hR1 hS1 hL
      rw [hz.1, hz.2]
      exact h5
theorem gS_PV {Ey : Option Unit} {K : Unit → Option β} {y : MethodName} {cy : ByteArray} {ny n idx : Nat} {ry : Option FieldType} {rmy : Room} {As st0 : List Value} (hX : CF X Ω own cc nL ret rm) (hd : Dc cc pc (.invokestatic idx) 3 pc') (hl : MLs own idx y cy ny ry n) (hC : Con Ω y cy ny ry rmy (emPV σ) As σ Ey) (hst : st0 = As.reverse ++ st) (hn : As.length = n) (hroom : rmIn rmy rm ny) (hz : rmy.cells = 0 ∧ rmy.slots = 0) (hc : u ≤ rm.cells ∧ v ≤ rm.slots) (hcat : (st.map fun w => w.category).sum ≤ 8) (kk : ∀ r : Unit, Ey = some r → GE X Ω nL mc ms em u v pc' L st σ (K r)) : GE X Ω nL mc ms em u v pc L st0 σ (Ey.bind K) := by
  refine g_callS hX hd hl.1 hl.2 hC hst hn hroom (by rw [hz.1, hz.2]; exact hc) hcat (fun r h => ?_)
  rw [hz.1, hz.2]
  exact kk r h
end GT
