/-! ===== more facts of places ===== -/
def tRt (Ω : OM) (σ : MS) (a : Nat) (sh : List (Nat × Nat)) : Prop := ∀ (i : Nat) (q : Nat × Nat), sh[i]? = some q → tf Ω σ (a + i) q
theorem sRt.t {Ω : OM} {σ : MS} {a : Nat} {sh : List (Nat × Nat)} (h : sRt Ω a sh) : tRt Ω σ a sh := fun i _ hq => h.tf i hq
theorem dRt.t {Ω : OM} {σ : MS} {a : Nat} {sh : List (Nat × Nat)} (h : dRt σ a sh) : tRt Ω σ a sh := fun i _ hq => h.tf i hq
theorem stS {Ω : OM} {σ : MS} {SH : List (Nat × Nat)} (h : oSH Ω = SH) (a : Nat) {q : Nat × Nat} (hq : SH[a]? = some q) : tf Ω σ a q := Or.inl (by rw [h]; exact hq)
/-- places of a static row, one behind another -/
def sub1 (SH : List (Nat × Nat)) (a : Nat) (sh : List (Nat × Nat)) : Bool := (List.range sh.length).all (fun i => decide (SH[a + i]? = sh[i]?))
theorem stR {Ω : OM} {SH : List (Nat × Nat)} (h : oSH Ω = SH) (a : Nat) {sh : List (Nat × Nat)} (hs : sub1 SH a sh = true) : sRt Ω a sh := by
  intro i q hq
  have hl := (List.getElem?_eq_some_iff.mp hq).1
  have := List.all_eq_true.mp hs i (List.mem_range.mpr hl)
  rw [h, of_decide_eq_true this]
  exact hq
def okRule (σ : MS) (b : Nat) : Prop := b + 1 < sN σ ∧ sS σ b = (16, 0) ∧ (sS σ (b + 1)).1 = 0
theorem okRule.o {Ω : OM} {σ : MS} {b : Nat} (h : okRule σ b) : tf Ω σ b (16, 0) := Or.inr ⟨by have := h.1; omega, h.2.1⟩
theorem okRule.c {Ω : OM} {σ : MS} {b : Nat} (h : okRule σ b) : tf Ω σ (b + 1) (0, (sS σ (b + 1)).2) := Or.inr ⟨h.1, Prod.ext h.2.2 rfl⟩
section GZ
variable {X : CX} {Ω : OM} {own : String} {cc : ByteArray} {nL mc ms : Nat} {ret : Option FieldType} {rm : Room} {β : Type} {em : β → Option Value × MS} {u v pc pc' : Nat} {L L' : List (Nat × Value)} {st : List Value} {σ : MS} {E E1 E2 : Option β}
theorem g_aloadQ_n {r : Option Nat} {i : Nat} {j : Fin 4} (hX : CF X Ω own cc nL ret rm) (hd : Dc cc pc (.aload_n j) 1 pc') (hj : (j : Nat) = i) (q : Nat) (hq : L[q]? = some (i, va_rf r)) (k : GE X Ω nL mc ms em u v pc' L (va_rf r :: st) σ E) : GE X Ω nL mc ms em u v pc L st σ E := by
  cases r with
  | none => exact g_aloadN_n hX hd hj q hq k
  | some b => exact g_aload_n hX hd hj q hq k
theorem g_onr {r : Option Nat} {F : Nat → Option β} (k0 : r = none → GE X Ω nL mc ms em u v pc L (.null :: st) σ E) (k1 : ∀ b : Nat, r = some b → GE X Ω nL mc ms em u v pc L (.ref b :: st) σ (F b)) : GE X Ω nL mc ms em u v pc L (va_rf r :: st) σ (onr r E F) := by
  cases r with
  | none => exact k0 rfl
  | some b => exact k1 b rfl
end GZ
theorem dc_of {cc : ByteArray} {tab : List (Nat × Instr × Nat × Nat)} (H : ∀ q ∈ tab, decode cc q.1 = .ok (q.2.1, q.2.2.1) ∧ q.1 + q.2.2.1 = q.2.2.2) {pc : Nat} {i : Instr} {n pc' : Nat} (j : Nat) (h : tab[j]? = some (pc, i, n, pc')) : Dc cc pc i n pc' := H (pc, i, n, pc') (List.mem_of_getElem? h)
theorem con_ofF {Ω : OM} {cc : ByteArray} {nL : Nat} {ret : Option FieldType} {rm : Room} {β : Type} {em : β → Option Value × MS} {L : List (Nat × Value)} {σ : MS} {E : Option β} {y : MethodName} {av : List Value} (hO : OKO Ω) (hp : plainFor y = true) (hn : (lg_sl av).length ≤ nL) (hL : lv_args 0 av = L) (body : ∀ X : CX, CF X Ω y.cls cc nL ret rm → X.2.2.2.2.2.2.2.2.1.name = y.name → GE X Ω nL rm.cells rm.slots em 0 0 0 L [] σ E) : Con Ω y cc nL ret rm em av σ E := by
  intro l out hE
  refine va_MetF (cc := cc) (maxL := nL) (ret := ret) hp rfl ?_
  intro p e s m args below meth c s₁ B hml hv
  obtain ⟨rfl, hR, hK, hA⟩ := hv
  have hts := atoms_spec (ws := wY y cc nL ret) B.pre
  have hcf : CF (p, l, e, (headSpec (wY y cc nL ret) rm).room, s, m, (av.map (cR (oR Ω))).toArray, below, meth, c) Ω y.cls cc nL ret rm := ⟨B.exec, B.bytes, hml, B.returns, findClass_of_methodNamed B.named, fun w hw => hts w (List.mem_cons_of_mem _ hw), B.notSynchronized, rfl, hK, hO, hA⟩
  have hnm : meth.name = y.name := (name_of_methodNamed B.named B.method).1
  have hl := lv_entry (av.map (cR (oR Ω))) (n := nL) (by rw [sl_len]; exact hn)
  rw [lg_entry_eq]
  rw [args_map, hL] at hl
  exact body (p, l, e, (headSpec (wY y cc nL ret) rm).room, s, m, (av.map (cR (oR Ω))).toArray, below, meth, c) hcf hnm out hE s.heap [] _ hR va_S.rf hl
theorem tsub {Ω : OM} {σ : MS} {a : Nat} {sh sh' : List (Nat × Nat)} (h : tRt Ω σ a sh) (k : Nat) (hs : sub1 sh k sh' = true) : tRt Ω σ (a + k) sh' := by
  intro i q hq
  have hl := (List.getElem?_eq_some_iff.mp hq).1
  have := List.all_eq_true.mp hs i (List.mem_range.mpr hl)
  rw [Nat.add_assoc]
  exact h (k + i) q (by rw [of_decide_eq_true this]; exact hq)
