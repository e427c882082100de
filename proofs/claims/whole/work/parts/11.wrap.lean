/-! ===== forms of answers, calls by the form of the answer, facts of places ===== -/
def FU : Nat := 1000000
abbrev emPI (σ : MS) : Int32 → Option Value × MS := fun r => (some (.int r), σ)
abbrev emPL (σ : MS) : Int64 → Option Value × MS := fun r => (some (.long r), σ)
abbrev emPN (σ : MS) : Option Nat → Option Value × MS := fun r => (some (va_rf r), σ)
abbrev emPS (σ : MS) : Nat → Option Value × MS := fun k => (some (.ref (1000000 + k)), σ)
abbrev emWI : Int32 × MS → Option Value × MS := fun q => (some (.int q.1), q.2)
abbrev emWL : Int64 × MS → Option Value × MS := fun q => (some (.long q.1), q.2)
abbrev emWV : MS → Option Value × MS := fun q => (none, q)
abbrev emWR : Nat × MS → Option Value × MS := fun q => (some (.ref q.1), q.2)
/-- a record that stays -/
def sRt (Ω : OM) (a : Nat) (sh : List (Nat × Nat)) : Prop := ∀ (i : Nat) (q : Nat × Nat), sh[i]? = some q → (oSH Ω)[a + i]? = some q
/-- a record of now -/
def dRt (σ : MS) (a : Nat) (sh : List (Nat × Nat)) : Prop := a + sh.length ≤ sN σ ∧ ∀ i, i < sh.length → sS σ (a + i) = sh.getD i (0, 0)
theorem sRt.tf {Ω : OM} {σ : MS} {a : Nat} {sh : List (Nat × Nat)} (h : sRt Ω a sh) (i : Nat) {q : Nat × Nat} (hq : sh[i]? = some q) : tf Ω σ (a + i) q := Or.inl (h i q hq)
theorem dRt.tf {Ω : OM} {σ : MS} {a : Nat} {sh : List (Nat × Nat)} (h : dRt σ a sh) (i : Nat) {q : Nat × Nat} (hq : sh[i]? = some q) : tf Ω σ (a + i) q := by
  have hl := (List.getElem?_eq_some_iff.mp hq).1
  refine Or.inr ⟨by have := h.1; omega, ?_⟩
  rw [h.2 i hl]
  simp [List.getD, hq]
def shState : List (Nat × Nat) := [(18, 0), (0, 6), (0, 6), (0, 4)]
def shLand : List (Nat × Nat) := [(13, 0), (0, 5), (0, 5), (0, 4), (0, 4), (0, 4), (0, 6), (0, 6), (18, 0), (0, 6), (0, 6), (0, 4)]
def shWorld : List (Nat × Nat) := [(20, 0), (13, 0), (0, 5), (0, 5), (0, 4), (0, 4), (0, 4), (0, 6), (0, 6), (18, 0), (0, 6), (0, 6), (0, 4), (18, 0), (0, 6), (0, 6), (0, 4), (4, 20), (0, 10), (0, 10), (0, 10)]
theorem i32ne {x w : Int32} {k : Int} (h : ¬ x = w) (hk : w.toInt = k) : x.toInt ≠ k := fun e => h (Int32.toInt_inj.mp (e.trans hk.symm))
theorem nz_bool {x : Int32} (h : x = 0 ∨ x = 1) : narrow .boolean (.int x) = .int x ∧ fits .boolean (.int x) = true := by
  rcases h with rfl | rfl <;> exact ⟨rfl, rfl⟩
def MLv (own : String) (idx : Nat) (y : MethodName) (cy : ByteArray) (ny : Nat) (ry : Option FieldType) (n ci : Nat) : Prop := MLk own idx y cy ny ry n ∧ Cond.instanceMethod y ∈ gd_tbl ∧ Cond.selects (RF ci) y y ∈ gd_tbl ∧ ci < 13
def MLs (own : String) (idx : Nat) (y : MethodName) (cy : ByteArray) (ny : Nat) (ry : Option FieldType) (n : Nat) : Prop := MLk own idx y cy ny ry n ∧ Cond.static y ∈ gd_tbl
section GW
variable {X : CX} {Ω : OM} {own : String} {cc : ByteArray} {nL mc ms : Nat} {ret : Option FieldType} {rm : Room} {β : Type} {em : β → Option Value × MS} {u v pc pc' : Nat} {L L' : List (Nat × Value)} {st : List Value} {σ : MS} {E E1 E2 : Option β}
theorem gV_PI {Ey : Option (Int32)} {K : Int32 → Option β} {y : MethodName} {cy : ByteArray} {ny n b ci n2 idx : Nat} {ry : Option FieldType} {rmy : Room} {As st0 : List Value} (hX : CF X Ω own cc nL ret rm) (hd : Dc cc pc (.invokevirtual idx) 3 pc') (hl : MLv own idx y cy ny ry n ci) (hC : Con Ω y cy ny ry rmy (emPI σ) (.ref b :: As) σ Ey) (ht : tf Ω σ b (10 + ci, n2)) (hst : st0 = As.reverse ++ .ref b :: st) (hn : As.length = n) (hroom : rmIn rmy rm ny) (hz : rmy.cells = 0 ∧ rmy.slots = 0) (hc : u ≤ rm.cells ∧ v ≤ rm.slots) (hcat : (st.map fun w => w.category).sum ≤ 8) (kk : ∀ r : Int32, Ey = some r → GE X Ω nL mc ms em u v pc' L (.int r :: st) σ (K r)) : GE X Ω nL mc ms em u v pc L st0 σ (Ey.bind K) := by
  refine g_callV hX hd hl.1 ⟨hl.2.1, hl.2.2.1⟩ hC ht hl.2.2.2 hst hn hroom (by rw [hz.1, hz.2]; exact hc) hcat (fun r h => ?_)
  rw [hz.1, hz.2]
  exact kk r h
theorem gS_PI {Ey : Option (Int32)} {K : Int32 → Option β} {y : MethodName} {cy : ByteArray} {ny n idx : Nat} {ry : Option FieldType} {rmy : Room} {As st0 : List Value} (hX : CF X Ω own cc nL ret rm) (hd : Dc cc pc (.invokestatic idx) 3 pc') (hl : MLs own idx y cy ny ry n) (hC : Con Ω y cy ny ry rmy (emPI σ) As σ Ey) (hst : st0 = As.reverse ++ st) (hn : As.length = n) (hroom : rmIn rmy rm ny) (hz : rmy.cells = 0 ∧ rmy.slots = 0) (hc : u ≤ rm.cells ∧ v ≤ rm.slots) (hcat : (st.map fun w => w.category).sum ≤ 8) (kk : ∀ r : Int32, Ey = some r → GE X Ω nL mc ms em u v pc' L (.int r :: st) σ (K r)) : GE X Ω nL mc ms em u v pc L st0 σ (Ey.bind K) := by
  refine g_callS hX hd hl.1 hl.2 hC hst hn hroom (by rw [hz.1, hz.2]; exact hc) hcat (fun r h => ?_)
  rw [hz.1, hz.2]
  exact kk r h
theorem gV_PL {Ey : Option (Int64)} {K : Int64 → Option β} {y : MethodName} {cy : ByteArray} {ny n b ci n2 idx : Nat} {ry : Option FieldType} {rmy : Room} {As st0 : List Value} (hX : CF X Ω own cc nL ret rm) (hd : Dc cc pc (.invokevirtual idx) 3 pc') (hl : MLv own idx y cy ny ry n ci) (hC : Con Ω y cy ny ry rmy (emPL σ) (.ref b :: As) σ Ey) (ht : tf Ω σ b (10 + ci, n2)) (hst : st0 = As.reverse ++ .ref b :: st) (hn : As.length = n) (hroom : rmIn rmy rm ny) (hz : rmy.cells = 0 ∧ rmy.slots = 0) (hc : u ≤ rm.cells ∧ v ≤ rm.slots) (hcat : (st.map fun w => w.category).sum ≤ 8) (kk : ∀ r : Int64, Ey = some r → GE X Ω nL mc ms em u v pc' L (.long r :: st) σ (K r)) : GE X Ω nL mc ms em u v pc L st0 σ (Ey.bind K) := by
  refine g_callV hX hd hl.1 ⟨hl.2.1, hl.2.2.1⟩ hC ht hl.2.2.2 hst hn hroom (by rw [hz.1, hz.2]; exact hc) hcat (fun r h => ?_)
  rw [hz.1, hz.2]
  exact kk r h
theorem gS_PL {Ey : Option (Int64)} {K : Int64 → Option β} {y : MethodName} {cy : ByteArray} {ny n idx : Nat} {ry : Option FieldType} {rmy : Room} {As st0 : List Value} (hX : CF X Ω own cc nL ret rm) (hd : Dc cc pc (.invokestatic idx) 3 pc') (hl : MLs own idx y cy ny ry n) (hC : Con Ω y cy ny ry rmy (emPL σ) As σ Ey) (hst : st0 = As.reverse ++ st) (hn : As.length = n) (hroom : rmIn rmy rm ny) (hz : rmy.cells = 0 ∧ rmy.slots = 0) (hc : u ≤ rm.cells ∧ v ≤ rm.slots) (hcat : (st.map fun w => w.category).sum ≤ 8) (kk : ∀ r : Int64, Ey = some r → GE X Ω nL mc ms em u v pc' L (.long r :: st) σ (K r)) : GE X Ω nL mc ms em u v pc L st0 σ (Ey.bind K) := by
  refine g_callS hX hd hl.1 hl.2 hC hst hn hroom (by rw [hz.1, hz.2]; exact hc) hcat (fun r h => ?_)
  rw [hz.1, hz.2]
  exact kk r h
theorem gV_PN {Ey : Option (Option Nat)} {K : Option Nat → Option β} {y : MethodName} {cy : ByteArray} {ny n b ci n2 idx : Nat} {ry : Option FieldType} {rmy : Room} {As st0 : List Value} (hX : CF X Ω own cc nL ret rm) (hd : Dc cc pc (.invokevirtual idx) 3 pc') (hl : MLv own idx y cy ny ry n ci) (hC : Con Ω y cy ny ry rmy (emPN σ) (.ref b :: As) σ Ey) (ht : tf Ω σ b (10 + ci, n2)) (hst : st0 = As.reverse ++ .ref b :: st) (hn : As.length = n) (hroom : rmIn rmy rm ny) (hz : rmy.cells = 0 ∧ rmy.slots = 0) (hc : u ≤ rm.cells ∧ v ≤ rm.slots) (hcat : (st.map fun w => w.category).sum ≤ 8) (kk : ∀ r : Option Nat, Ey = some r → GE X Ω nL mc ms em u v pc' L (va_rf r :: st) σ (K r)) : GE X Ω nL mc ms em u v pc L st0 σ (Ey.bind K) := by
  refine g_callV hX hd hl.1 ⟨hl.2.1, hl.2.2.1⟩ hC ht hl.2.2.2 hst hn hroom (by rw [hz.1, hz.2]; exact hc) hcat (fun r h => ?_)
  rw [hz.1, hz.2]
  exact kk r h
theorem gS_PN {Ey : Option (Option Nat)} {K : Option Nat → Option β} {y : MethodName} {cy : ByteArray} {ny n idx : Nat} {ry : Option FieldType} {rmy : Room} {As st0 : List Value} (hX : CF X Ω own cc nL ret rm) (hd : Dc cc pc (.invokestatic idx) 3 pc') (hl : MLs own idx y cy ny ry n) (hC : Con Ω y cy ny ry rmy (emPN σ) As σ Ey) (hst : st0 = As.reverse ++ st) (hn : As.length = n) (hroom : rmIn rmy rm ny) (hz : rmy.cells = 0 ∧ rmy.slots = 0) (hc : u ≤ rm.cells ∧ v ≤ rm.slots) (hcat : (st.map fun w => w.category).sum ≤ 8) (kk : ∀ r : Option Nat, Ey = some r → GE X Ω nL mc ms em u v pc' L (va_rf r :: st) σ (K r)) : GE X Ω nL mc ms em u v pc L st0 σ (Ey.bind K) := by
  refine g_callS hX hd hl.1 hl.2 hC hst hn hroom (by rw [hz.1, hz.2]; exact hc) hcat (fun r h => ?_)
  rw [hz.1, hz.2]
  exact kk r h
theorem gV_PS {Ey : Option (Nat)} {K : Nat → Option β} {y : MethodName} {cy : ByteArray} {ny n b ci n2 idx : Nat} {ry : Option FieldType} {rmy : Room} {As st0 : List Value} (hX : CF X Ω own cc nL ret rm) (hd : Dc cc pc (.invokevirtual idx) 3 pc') (hl : MLv own idx y cy ny ry n ci) (hC : Con Ω y cy ny ry rmy (emPS σ) (.ref b :: As) σ Ey) (ht : tf Ω σ b (10 + ci, n2)) (hst : st0 = As.reverse ++ .ref b :: st) (hn : As.length = n) (hroom : rmIn rmy rm ny) (hz : rmy.cells = 0 ∧ rmy.slots = 0) (hc : u ≤ rm.cells ∧ v ≤ rm.slots) (hcat : (st.map fun w => w.category).sum ≤ 8) (kk : ∀ r : Nat, Ey = some r → GE X Ω nL mc ms em u v pc' L (.ref (1000000 + r) :: st) σ (K r)) : GE X Ω nL mc ms em u v pc L st0 σ (Ey.bind K) := by
  refine g_callV hX hd hl.1 ⟨hl.2.1, hl.2.2.1⟩ hC ht hl.2.2.2 hst hn hroom (by rw [hz.1, hz.2]; exact hc) hcat (fun r h => ?_)
  rw [hz.1, hz.2]
  exact kk r h
theorem gS_PS {Ey : Option (Nat)} {K : Nat → Option β} {y : MethodName} {cy : ByteArray} {ny n idx : Nat} {ry : Option FieldType} {rmy : Room} {As st0 : List Value} (hX : CF X Ω own cc nL ret rm) (hd : Dc cc pc (.invokestatic idx) 3 pc') (hl : MLs own idx y cy ny ry n) (hC : Con Ω y cy ny ry rmy (emPS σ) As σ Ey) (hst : st0 = As.reverse ++ st) (hn : As.length = n) (hroom : rmIn rmy rm ny) (hz : rmy.cells = 0 ∧ rmy.slots = 0) (hc : u ≤ rm.cells ∧ v ≤ rm.slots) (hcat : (st.map fun w => w.category).sum ≤ 8) (kk : ∀ r : Nat, Ey = some r → GE X Ω nL mc ms em u v pc' L (.ref (1000000 + r) :: st) σ (K r)) : GE X Ω nL mc ms em u v pc L st0 σ (Ey.bind K) := by
  refine g_callS hX hd hl.1 hl.2 hC hst hn hroom (by rw [hz.1, hz.2]; exact hc) hcat (fun r h => ?_)
  rw [hz.1, hz.2]
  exact kk r h
theorem gV_WI {Ey : Option (Int32 × MS)} {K : Int32 × MS → Option β} {y : MethodName} {cy : ByteArray} {ny n b ci n2 idx : Nat} {ry : Option FieldType} {rmy : Room} {As st0 : List Value} (hX : CF X Ω own cc nL ret rm) (hd : Dc cc pc (.invokevirtual idx) 3 pc') (hl : MLv own idx y cy ny ry n ci) (hC : Con Ω y cy ny ry rmy (emWI) (.ref b :: As) σ Ey) (ht : tf Ω σ b (10 + ci, n2)) (hst : st0 = As.reverse ++ .ref b :: st) (hn : As.length = n) (hroom : rmIn rmy rm ny) (hz : rmy.cells = 0 ∧ rmy.slots = 0) (hc : u ≤ rm.cells ∧ v ≤ rm.slots) (hcat : (st.map fun w => w.category).sum ≤ 8) (kk : ∀ r : Int32 × MS, Ey = some r → GE X Ω nL mc ms em u v pc' L (.int r.1 :: st) r.2 (K r)) : GE X Ω nL mc ms em u v pc L st0 σ (Ey.bind K) := by
  refine g_callV hX hd hl.1 ⟨hl.2.1, hl.2.2.1⟩ hC ht hl.2.2.2 hst hn hroom (by rw [hz.1, hz.2]; exact hc) hcat (fun r h => ?_)
  rw [hz.1, hz.2]
  exact kk r h
theorem gS_WI {Ey : Option (Int32 × MS)} {K : Int32 × MS → Option β} {y : MethodName} {cy : ByteArray} {ny n idx : Nat} {ry : Option FieldType} {rmy : Room} {As st0 : List Value} (hX : CF X Ω own cc nL ret rm) (hd : Dc cc pc (.invokestatic idx) 3 pc') (hl : MLs own idx y cy ny ry n) (hC : Con Ω y cy ny ry rmy (emWI) As σ Ey) (hst : st0 = As.reverse ++ st) (hn : As.length = n) (hroom : rmIn rmy rm ny) (hz : rmy.cells = 0 ∧ rmy.slots = 0) (hc : u ≤ rm.cells ∧ v ≤ rm.slots) (hcat : (st.map fun w => w.category).sum ≤ 8) (kk : ∀ r : Int32 × MS, Ey = some r → GE X Ω nL mc ms em u v pc' L (.int r.1 :: st) r.2 (K r)) : GE X Ω nL mc ms em u v pc L st0 σ (Ey.bind K) := by
  refine g_callS hX hd hl.1 hl.2 hC hst hn hroom (by rw [hz.1, hz.2]; exact hc) hcat (fun r h => ?_)
  rw [hz.1, hz.2]
  exact kk r h
theorem gV_WL {Ey : Option (Int64 × MS)} {K : Int64 × MS → Option β} {y : MethodName} {cy : ByteArray} {ny n b ci n2 idx : Nat} {ry : Option FieldType} {rmy : Room} {As st0 : List Value} (hX : CF X Ω own cc nL ret rm) (hd : Dc cc pc (.invokevirtual idx) 3 pc') (hl : MLv own idx y cy ny ry n ci) (hC : Con Ω y cy ny ry rmy (emWL) (.ref b :: As) σ Ey) (ht : tf Ω σ b (10 + ci, n2)) (hst : st0 = As.reverse ++ .ref b :: st) (hn : As.length = n) (hroom : rmIn rmy rm ny) (hz : rmy.cells = 0 ∧ rmy.slots = 0) (hc : u ≤ rm.cells ∧ v ≤ rm.slots) (hcat : (st.map fun w => w.category).sum ≤ 8) (kk : ∀ r : Int64 × MS, Ey = some r → GE X Ω nL mc ms em u v pc' L (.long r.1 :: st) r.2 (K r)) : GE X Ω nL mc ms em u v pc L st0 σ (Ey.bind K) := by
  refine g_callV hX hd hl.1 ⟨hl.2.1, hl.2.2.1⟩ hC ht hl.2.2.2 hst hn hroom (by rw [hz.1, hz.2]; exact hc) hcat (fun r h => ?_)
  rw [hz.1, hz.2]
  exact kk r h
theorem gS_WL {Ey : Option (Int64 × MS)} {K : Int64 × MS → Option β} {y : MethodName} {cy : ByteArray} {ny n idx : Nat} {ry : Option FieldType} {rmy : Room} {As st0 : List Value} (hX : CF X Ω own cc nL ret rm) (hd : Dc cc pc (.invokestatic idx) 3 pc') (hl : MLs own idx y cy ny ry n) (hC : Con Ω y cy ny ry rmy (emWL) As σ Ey) (hst : st0 = As.reverse ++ st) (hn : As.length = n) (hroom : rmIn rmy rm ny) (hz : rmy.cells = 0 ∧ rmy.slots = 0) (hc : u ≤ rm.cells ∧ v ≤ rm.slots) (hcat : (st.map fun w => w.category).sum ≤ 8) (kk : ∀ r : Int64 × MS, Ey = some r → GE X Ω nL mc ms em u v pc' L (.long r.1 :: st) r.2 (K r)) : GE X Ω nL mc ms em u v pc L st0 σ (Ey.bind K) := by
  refine g_callS hX hd hl.1 hl.2 hC hst hn hroom (by rw [hz.1, hz.2]; exact hc) hcat (fun r h => ?_)
  rw [hz.1, hz.2]
  exact kk r h
theorem gV_WV {Ey : Option (MS)} {K : MS → Option β} {y : MethodName} {cy : ByteArray} {ny n b ci n2 idx : Nat} {ry : Option FieldType} {rmy : Room} {As st0 : List Value} (hX : CF X Ω own cc nL ret rm) (hd : Dc cc pc (.invokevirtual idx) 3 pc') (hl : MLv own idx y cy ny ry n ci) (hC : Con Ω y cy ny ry rmy (emWV) (.ref b :: As) σ Ey) (ht : tf Ω σ b (10 + ci, n2)) (hst : st0 = As.reverse ++ .ref b :: st) (hn : As.length = n) (hroom : rmIn rmy rm ny) (hz : rmy.cells = 0 ∧ rmy.slots = 0) (hc : u ≤ rm.cells ∧ v ≤ rm.slots) (hcat : (st.map fun w => w.category).sum ≤ 8) (kk : ∀ r : MS, Ey = some r → GE X Ω nL mc ms em u v pc' L st r (K r)) : GE X Ω nL mc ms em u v pc L st0 σ (Ey.bind K) := by
  refine g_callV hX hd hl.1 ⟨hl.2.1, hl.2.2.1⟩ hC ht hl.2.2.2 hst hn hroom (by rw [hz.1, hz.2]; exact hc) hcat (fun r h => ?_)
  rw [hz.1, hz.2]
  exact kk r h
theorem gS_WV {Ey : Option (MS)} {K : MS → Option β} {y : MethodName} {cy : ByteArray} {ny n idx : Nat} {ry : Option FieldType} {rmy : Room} {As st0 : List Value} (hX : CF X Ω own cc nL ret rm) (hd : Dc cc pc (.invokestatic idx) 3 pc') (hl : MLs own idx y cy ny ry n) (hC : Con Ω y cy ny ry rmy (emWV) As σ Ey) (hst : st0 = As.reverse ++ st) (hn : As.length = n) (hroom : rmIn rmy rm ny) (hz : rmy.cells = 0 ∧ rmy.slots = 0) (hc : u ≤ rm.cells ∧ v ≤ rm.slots) (hcat : (st.map fun w => w.category).sum ≤ 8) (kk : ∀ r : MS, Ey = some r → GE X Ω nL mc ms em u v pc' L st r (K r)) : GE X Ω nL mc ms em u v pc L st0 σ (Ey.bind K) := by
  refine g_callS hX hd hl.1 hl.2 hC hst hn hroom (by rw [hz.1, hz.2]; exact hc) hcat (fun r h => ?_)
  rw [hz.1, hz.2]
  exact kk r h
end GW
