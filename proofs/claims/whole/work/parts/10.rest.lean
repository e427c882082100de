/-! ===== rules: rows of references, finished objects, copies, constants ===== -/
section GD
variable {X : CX} {Ω : OM} {own : String} {cc : ByteArray} {nL mc ms : Nat} {ret : Option FieldType} {rm : Room} {β : Type} {em : β → Option Value × MS} {u v pc pc' : Nat} {L L' : List (Nat × Value)} {st : List Value} {σ : MS} {E E1 E2 : Option β}
theorem g_anew {n : Int32} {N kd idx : Nat} {C : String} (hX : CF X Ω own cc nL ret rm) (hal : oAl Ω) (hlt : sN σ < 1000000) (hd : Dc cc pc (.anewarray idx) 3 pc') (hw : Cond.classLink own idx C ∈ gd_tbl) (hkd : (kd = 4 ∧ C = RX8) ∨ (kd = 5 ∧ C = RX6) ∨ (kd = 6 ∧ C = RX10)) (hn : ¬ n < 0) (hN : n.toNatClampNeg = N) (hby : N * 4 ≤ 536870912) (hc : u + 1 ≤ rm.cells) (hs : v + N ≤ rm.slots) (kk : GE X Ω nL mc ms em (u + 1) (v + N) pc' L (.ref (sN σ) :: st) (al σ kd N) E) : GE X Ω nL mc ms em u v pc L (.int n :: st) σ E := by
  obtain ⟨p, l, e, R, s, m, args, below, meth, c⟩ := X
  obtain ⟨hx, hb, hml, hr, hown, hts, hlk, hR0, hK, hO, hA⟩ := hX
  obtain ⟨hd, rfl⟩ := hd
  subst hR0
  intro out hE H locs ls hR hS hL
  have hAn := hA hal H.size hS.1
  have hao : va_AO C s ∧ va_RA s (oDA Ω kd) (.object C) ∧ 3 < kd ∧ kd < 7 := by
    rcases hkd with ⟨rfl, rfl⟩ | ⟨rfl, rfl⟩ | ⟨rfl, rfl⟩
    · exact ⟨hK.2.2.2.2.2.2.2.2.1, (hK.1.2 4 _ rfl).2, by decide, by decide⟩
    · exact ⟨hK.2.2.2.2.2.2.2.2.2.1, (hK.1.2 5 _ rfl).2, by decide, by decide⟩
    · exact ⟨hK.2.2.2.2.2.2.2.2.2.2, (hK.1.2 6 _ rfl).2, by decide, by decide⟩
  obtain ⟨hao, ⟨kA0, comp0, r1, r2, r3, r4⟩, h3, h7⟩ := hao
  subst hN
  refine W.anew hx hb hown (hts _ hw) (va_AO.use hao) rfl hd rfl hn hby hc hs fun cA kA comp f1 f2 f3 f4 => ?_
  have hcA : cA = oDA Ω kd := Option.some.inj (f1.symm.trans r4)
  subst hcA
  generalize hH1 : H.push ({ cls := oDA Ω kd, slots := Array.replicate n.toNatClampNeg .null, vm := .none } : Cell) = H1
  have z1 : H1.size = H.size + 1 := by rw [← hH1, Array.size_push]
  have e1 : H1[H.size]? = some (arrV (oDA Ω kd) n.toNatClampNeg (fun _ => .null)) := by rw [← hH1, Array.getElem?_push_size, ← arrV_new]
  have o1 : ∀ q : Nat, q < H.size → H1[q]? = H[q]? := fun q hq => by rw [← hH1, Array.getElem?_push, if_neg (Nat.ne_of_lt hq)]
  have hz : sR (al σ kd n.toNatClampNeg) (sN σ) = fun _ => none := up1_s _ _ _
  have hat : va_at (oD Ω) classes (H.size, cellE (oR Ω) (oDA Ω) (al σ kd n.toNatClampNeg) (sN σ)) H1 := by
    rw [cell_ref Ω (σ := al σ kd n.toNatClampNeg) (al_S _ _ _) h3 h7, hz]
    show H1[H.size]? = some (vp_cell _ _)
    rw [vp_cell_q]
    exact e1
  obtain ⟨hR1, hq⟩ := hR.push hal hlt hO hAn z1 o1 hat
  have hS1 : va_S (oA Ω) s.heap H1 locs := ⟨Nat.le_trans hS.1 (by omega), fun q g1 g2 => (o1 q (Nat.lt_of_lt_of_le g1 hS.1)).trans (hS.2.1 q g1 g2), hS.2.2⟩
  have := kk out hE H1 locs ls hR1 hS1 hL
  rw [← hq]
  exact this
/-- an object is finished -/
def finOK (σ : MS) (a ci : Nat) : Prop := ∀ k, k < nf ci → fk ci k = 2 → sR σ a k = some (FP ci k a)
theorem rep_fin {Ω : OM} {σ : MS} {H : Heap} {a ci n : Nat} (hR : Rep Ω σ H) (ht : tf Ω σ a (30 + ci, n)) (hci : ci < 13) (hf : finOK σ a ci) (hs : (oSH Ω).length ≤ a) : Rep Ω (fin σ a ci) H := by
  obtain ⟨t1, t2⟩ := hR.tf ht
  obtain ⟨h1, h2, h3, h4⟩ := hR
  have hw : wsO Ω (fin σ a ci) = wsO Ω σ := by
    unfold wsO
    show (List.range (sN σ)).map _ = _
    apply List.map_congr_left
    intro i hi
    congr 1
    by_cases hia : i = a
    · subst hia
      rw [cell_raw Ω t2, cell_obj Ω (σ := fin σ i ci) (n := 0) (up1_s _ _ _) hci]
      congr 2
      apply List.map_congr_left
      intro k hk
      have hk := List.mem_range.mp hk
      rcases fk_le ci hci k hk with h | h | h
      · rw [fv_int h, fv_int h]; rfl
      · rw [fv_nul (Or.inl h), fv_nul (Or.inl h)]; rfl
      · rw [fv_fin h, fv_nul (Or.inr ⟨h, rfl⟩), hf k hk h]; rfl
    · exact cell_of (σ' := fin σ a ci) (σ := σ) (up1_n _ _ hia) rfl rfl rfl
  refine ⟨by rw [hw]; exact h1, by rw [hw]; exact h2, h3, fun i q hi => ?_⟩
  obtain ⟨g1, g2⟩ := h4 i q hi
  refine ⟨g1, ?_⟩
  have hil := (List.getElem?_eq_some_iff.mp hi).1
  rw [← g2]
  exact up1_n _ _ (by omega)
theorem g_fin {a ci n : Nat} (ht : tf Ω σ a (30 + ci, n)) (hci : ci < 13) (hf : finOK σ a ci) (hs : (oSH Ω).length ≤ a) (k : GE X Ω nL mc ms em u v pc L st (fin σ a ci) E) : GE X Ω nL mc ms em u v pc L st σ E := by
  obtain ⟨p, l, e, R, s, m, args, below, meth, c⟩ := X
  intro out hE H locs ls hR hS hL
  exact k out hE H locs ls (rep_fin hR ht hci hf hs) hS hL
theorem nn_clamp {z : Int32} (hz : ¬ z < 0) : z.toInt = (z.toNatClampNeg : Int) := by
  have hz0 : (0 : Int) ≤ z.toInt := by simpa using Int32.le_iff_toInt_le.mp (Int32.not_lt.mp hz)
  show z.toInt = ((z.toInt.toNat : Nat) : Int)
  omega
/-- ints copied from a row to a row -/
theorem g_copy {a d n0 n1 idx : Nat} {sp dp n : Int32} (hX : CF X Ω own cc nL ret rm) (hd : Dc cc pc (.invokestatic idx) 3 pc') (hl : Cond.methodLink own idx arraycopyName ∈ gd_tbl ∧ Cond.native arraycopyName ∈ gd_tbl ∧ Cond.static arraycopyName ∈ gd_tbl ∧ Cond.initialized "java/lang/System" ∈ gd_tbl) (ht0 : tf Ω σ a (0, n0)) (ht1 : tf Ω σ d (0, n1)) (hc : ¬ sp < 0 ∧ ¬ dp < 0 ∧ ¬ n < 0 ∧ ix sp + ix n ≤ n0 ∧ ix dp + ix n ≤ n1) (hfr : 1 ≤ rm.frames) (hlo : 8 + (nativeFrameWords "java/lang/System" "arraycopy" 5 + 11) ≤ rm.locals) (hcat : (st.map fun w => w.category).sum ≤ 8) (kk : GE X Ω nL mc ms em u v pc' L st (wW σ d (va_cpy (sI σ a) (sI σ d) (ix sp) (ix dp) (ix n))) E) : GE X Ω nL mc ms em u v pc L (.int n :: .int dp :: .ref d :: .int sp :: .ref a :: st) σ E := by
  obtain ⟨p, l, e, R, s, m, args, below, meth, c⟩ := X
  obtain ⟨hx, hb, hml, hr, hown, hts, hlk, hR0, hK, hO, hA⟩ := hX
  obtain ⟨hd, rfl⟩ := hd
  subst hR0
  intro out hE H locs ls hR hS hL
  obtain ⟨g1, g2⟩ := hR.tf ht0
  obtain ⟨k1, k2⟩ := hR.tf ht1
  have hw0 := wsO_at Ω g1
  have hw1 := wsO_at Ω k1
  have hA1 := hR.2.1.2 d _ hw1
  rw [cell_int Ω g2 (by decide)] at hw0
  rw [cell_int Ω k2 (by decide)] at hw1
  have hc0 : H[oR Ω a]? = some (vp_cell (oDA Ω 0) (n0, .inl (sI σ a))) := hR.1 a _ hw0
  have hc1 : H[oR Ω d]? = some (vp_cell (oDA Ω 0) (n1, .inl (sI σ d))) := hR.1 d _ hw1
  obtain ⟨-, q0, hq0, cm0, hqq0⟩ := (hK.1.2 0 _ rfl).1 n0 (fun j => .int (sI σ a j))
  obtain ⟨h1, h2, h3, h4, h5⟩ := hc
  intro T hT X0
  have hrd : ∀ i : Nat, i < n.toNatClampNeg → (vp_cell (oDA Ω 0) (n0, .inl (sI σ a))).slots.getD (sp.toNatClampNeg + i) .null = .int (sI σ a (sp.toNatClampNeg + i)) := by
    intro i hi
    have h4' : sp.toNatClampNeg + n.toNatClampNeg ≤ n0 := h4
    show (arrV (oDA Ω 0) n0 (fun j => .int (sI σ a j))).slots.getD _ _ = _
    rw [Array.getD_eq_getD_getElem?, arrV_read _ _ (by omega)]
    rfl
  obtain ⟨vm', X', step⟩ := X0.arraycopy hx hown (hts _ hl.1) (hts _ hl.2.1) (hts _ hl.2.2.1) (hts _ hl.2.2.2) (src := oR Ω a) (dst := oR Ω d) (cs := vp_cell (oDA Ω 0) (n0, .inl (sI σ a))) (cd := vp_cell (oDA Ω 0) (n1, .inl (sI σ d))) (srcPos := sp) (destPos := dp) (n := n) (by rw [hT]; exact hc0) (by rw [hT]; exact hc1)
    (fun _ h => by cases h) (fun _ h => by cases h) (fun h => by cases h) (fun h => by cases h) hq0 hq0 hqq0 hqq0 rfl h1 h2 h3
    (by rw [nn_clamp h1, nn_clamp h3]; show ¬ _ > ((arrV (oDA Ω 0) n0 (fun j => .int (sI σ a j))).slots.size : Int); rw [arrV_size]; have h4' : sp.toNatClampNeg + n.toNatClampNeg ≤ n0 := h4; omega)
    (by rw [nn_clamp h2, nn_clamp h3]; show ¬ _ > ((arrV (oDA Ω 0) n1 (fun j => .int (sI σ d j))).slots.size : Int); rw [arrV_size]; have h5' : dp.toNatClampNeg + n.toNatClampNeg ≤ n1 := h5; omega)
    (fun vm₁ _ i hi => by rw [hrd i hi]; exact ⟨rfl, trivial⟩)
    (g := F0 m pc ls ((Value.int n :: .int dp :: .ref d :: .int sp :: .ref a :: st).map (cR (oR Ω)))) rfl (by rw [hml]; exact hL.1) (rest := st.map (cR (oR Ω))) rfl (by rw [hb]; exact hd) hfr (by show 2 * 0 + _ + _ ≤ _; rw [cat_sum]; omega)
  have e1 : copied (vp_cell (oDA Ω 0) (n0, .inl (sI σ a))) (vp_cell (oDA Ω 0) (n1, .inl (sI σ d))) sp dp n = vp_cell (oDA Ω 0) (n1, .inl (va_cpy (sI σ a) (sI σ d) (ix sp) (ix dp) (ix n))) := va_copied (fun z => .int z) (oDA Ω 0) (oDA Ω 0) (sI σ a) (sI σ d) h4
  rw [e1] at X' step
  have hl1 : oR Ω d < H.size := (Array.getElem?_eq_some_iff.mp hc1).1
  have hheap : ((T.setVm vm').setCell (oR Ω d) (vp_cell (oDA Ω 0) (n1, .inl (va_cpy (sI σ a) (sI σ d) (ix sp) (ix dp) (ix n))))).heap = H.setIfInBounds (oR Ω d) (vp_cell (oDA Ω 0) (n1, .inl (va_cpy (sI σ a) (sI σ d) (ix sp) (ix dp) (ix n)))) := by rw [← hT]; rfl
  have oq : ∀ q : Nat, q ≠ oR Ω d → (H.setIfInBounds (oR Ω d) (vp_cell (oDA Ω 0) (n1, .inl (va_cpy (sI σ a) (sI σ d) (ix sp) (ix dp) (ix n)))))[q]? = H[q]? := fun q hq => by simp [Array.getElem?_setIfInBounds, Ne.symm hq]
  have hRd : Rep Ω (wW σ d (va_cpy (sI σ a) (sI σ d) (ix sp) (ix dp) (ix n))) (H.setIfInBounds (oR Ω d) (vp_cell (oDA Ω 0) (n1, .inl (va_cpy (sI σ a) (sI σ d) (ix sp) (ix dp) (ix n))))) := by
    refine hR.put (σ' := wW σ d (va_cpy (sI σ a) (sI σ d) (ix sp) (ix dp) (ix n))) (e' := .inl (oDA Ω 0, n1, .inl (va_cpy (sI σ a) (sI σ d) (ix sp) (ix dp) (ix n)))) k1 (by simp) oq ?_ rfl rfl ?_ (fun q hq => cell_of rfl (up1_n _ _ hq) rfl rfl)
    · show (H.setIfInBounds (oR Ω d) _)[oR Ω d]? = some _
      simp [Array.getElem?_setIfInBounds, hl1]
    · rw [cell_int Ω (σ := wW σ d (va_cpy (sI σ a) (sI σ d) (ix sp) (ix dp) (ix n))) k2 (by decide)]
      congr 3
      exact congrArg Sum.inl (up1_s (sI σ) d _).symm
  obtain ⟨t, a1, b1⟩ := kk out hE _ _ ls hRd ⟨by simp; exact hS.1, fun q y1 y2 => by
      rw [oq q (fun e => y2 (by rw [e]; exact hA1))]
      exact hS.2.1 q y1 y2, fun q hq => by
      rcases List.mem_append.mp hq with h | h
      · exact hS.2.2 q h
      · obtain ⟨z, -, hz⟩ := List.mem_map.mp h
        rw [← hz]
        exact hA1⟩ hL _ hheap X'
  exact ⟨t, step t a1, b1⟩
/-- the levels of the rule's reader -/
theorem g_getLev {idx : Nat} (hX : CF X Ω own cc nL ret rm) (hd : Dc cc pc (.getstatic idx) 3 pc') (hl : Cond.fieldLink own idx RX7 "LEVEL" "[I" ∈ gd_tbl) (k : GE X Ω nL mc ms em u v pc' L (.ref 1000100 :: st) σ E) : GE X Ω nL mc ms em u v pc L st σ E := by
  obtain ⟨p, l, e, R, s, m, args, below, meth, c⟩ := X
  obtain ⟨hx, hb, hml, hr, hown, hts, hlk, hR0, hK, hO, hA⟩ := hX
  obtain ⟨hd, rfl⟩ := hd
  intro out hE H locs ls hR hS hL
  have h1 := k out hE H locs ls hR hS hL
  have h2 : oR Ω 1000100 = oK Ω 100 := hO.2.2.1 100 (Or.inr (Or.inl rfl))
  refine va_gets hx hb hK.2.2.2.2.1 hS hown (hts _ hl) (fun _ h => h) hd ?_
  rw [← h2]
  exact h1
theorem g_lev {i : Int32} (hX : CF X Ω own cc nL ret rm) (hd : Dc cc pc .iaload 1 pc') (hin : inb i 16) (k : GE X Ω nL mc ms em u v pc' L (.int (levT.getD (ix i) 0) :: st) σ E) : GE X Ω nL mc ms em u v pc L (.int i :: .ref 1000100 :: st) σ E := by
  obtain ⟨p, l, e, R, s, m, args, below, meth, c⟩ := X
  obtain ⟨hx, hb, hml, hr, hown, hts, hlk, hR0, hK, hO, hA⟩ := hX
  obtain ⟨hd, rfl⟩ := hd
  intro out hE H locs ls hR hS hL
  have h1 := k out hE H locs ls hR hS hL
  have h2 : oR Ω 1000100 = oK Ω 100 := hO.2.2.1 100 (Or.inr (Or.inl rfl))
  show W p l e R s m args below meth c H locs u v _ (F0 m pc ls (.int i :: .ref (oR Ω 1000100) :: st.map (cR (oR Ω))))
  rw [h2]
  exact va_ti hx hb hK.2.2.2.2.2.1 hS hin rfl hd h1
/-- a text's place -/
theorem g_ldcS {idx i : Nat} {tx : String} (hX : CF X Ω own cc nL ret rm) (hd : Dc cc pc (.ldc idx) 2 pc') (hi : i < 23) (hq : strT[i]? = some (own, idx, tx)) (k : GE X Ω nL mc ms em u v pc' L (.ref (1000000 + i) :: st) σ E) : GE X Ω nL mc ms em u v pc L st σ E := by
  obtain ⟨p, l, e, R, s, m, args, below, meth, c⟩ := X
  obtain ⟨hx, hb, hml, hr, hown, hts, hlk, hR0, hK, hO, hA⟩ := hX
  obtain ⟨hd, rfl⟩ := hd
  intro out hE H locs ls hR hS hL
  have h1 := k out hE H locs ls hR hS hL
  have h2 : oR Ω (1000000 + i) = oK Ω i := hO.2.2.1 i (Or.inl hi)
  refine va_ldcS hx hb hown (hK.2.2.1 i _ hq) hd ?_
  rw [← h2]
  exact h1
end GD
