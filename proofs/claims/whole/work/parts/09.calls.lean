/-! ===== rules: calls, entries, the rest ===== -/
section GC
variable {X : CX} {Ω : OM} {own : String} {cc : ByteArray} {nL mc ms : Nat} {ret : Option FieldType} {rm : Room} {β : Type} {em : β → Option Value × MS} {u v pc pc' : Nat} {L L' : List (Nat × Value)} {st : List Value} {σ : MS} {E E1 E2 : Option β}
/-- what a method does from given arguments and memory, if E says so -/
def Con (Ω : OM) (y : MethodName) (cc : ByteArray) (nL : Nat) (ret : Option FieldType) (rm : Room) {β : Type} (em : β → Option Value × MS) (av : List Value) (σ : MS) (E : Option β) : Prop :=
  ∀ (l : Launch) (out : β), E = some out → Met l y (wY y cc nL ret) rm (va_Pc (av.map (cR (oR Ω))) (fun U => Rep Ω σ U.heap ∧ KK Ω U ∧ (oAl Ω → ∀ q : Nat, U.heap.size ≤ q → oA Ω q))) (QC Ω (em out)) rm.cells rm.slots (oA Ω)
theorem args_map (ρ : Nat → Nat) : ∀ (av : List Value) (i : Nat), lv_args i (av.map (cR ρ)) = (lv_args i av).map fun q => (q.1, cR ρ q.2)
  | [], _ => rfl
  | a :: av, i => by
    simp only [List.map_cons, lv_args, cR_cat]
    rw [args_map ρ av]
theorem sl_len (ρ : Nat → Nat) (av : List Value) : (lg_sl (av.map (cR ρ))).length = (lg_sl av).length := by
  induction av with
  | nil => rfl
  | cons a av ih =>
    simp only [lg_sl, List.map_cons, List.flatMap_cons, List.length_append, cR_cat] at ih ⊢
    rw [ih]
    congr 1
    by_cases h : a.category = 2 <;> simp [h]
theorem con_of {y : MethodName} {av : List Value} (hO : OKO Ω) (hp : plainName y.cls = true) (hn : (lg_sl av).length ≤ nL) (hL : lv_args 0 av = L) (body : ∀ X : CX, CF X Ω y.cls cc nL ret rm → X.2.2.2.2.2.2.2.2.1.name = y.name → GE X Ω nL rm.cells rm.slots em 0 0 0 L [] σ E) : Con Ω y cc nL ret rm em av σ E := by
  intro l out hE
  refine Met.ofW (cc := cc) (maxL := nL) (ret := ret) hp rfl ?_
  intro p e s m args below meth c s₁ B hml hv
  obtain ⟨rfl, hR, hK, hA⟩ := hv
  have hts := atoms_spec (ws := wY y cc nL ret) B.pre
  have hcf : CF (p, l, e, (headSpec (wY y cc nL ret) rm).room, s, m, (av.map (cR (oR Ω))).toArray, below, meth, c) Ω y.cls cc nL ret rm := ⟨B.exec, B.bytes, hml, B.returns, findClass_of_methodNamed B.named, fun w hw => hts w (List.mem_cons_of_mem _ hw), B.notSynchronized, rfl, hK, hO, hA⟩
  have hnm : meth.name = y.name := (name_of_methodNamed B.named B.method).1
  have hl := lv_entry (av.map (cR (oR Ω))) (n := nL) (by rw [sl_len]; exact hn)
  rw [lg_entry_eq]
  rw [args_map, hL] at hl
  exact body (p, l, e, (headSpec (wY y cc nL ret) rm).room, s, m, (av.map (cR (oR Ω))).toArray, below, meth, c) hcf hnm out hE s.heap [] _ hR va_S.rf hl
theorem cat_sum (ρ : Nat → Nat) (st : List Value) : ((st.map (cR ρ)).map fun w => w.category).sum = (st.map fun w => w.category).sum := by
  congr 1
  rw [List.map_map]
  exact List.map_congr_left (fun a _ => cR_cat ρ a)
theorem toList_map (ρ : Nat → Nat) (o : Option Value) (st : List Value) : (o.map (cR ρ)).toList ++ st.map (cR ρ) = (o.toList ++ st).map (cR ρ) := by
  cases o <;> rfl
/-- what a call needs of the tables -/
def MLk (own : String) (idx : Nat) (y : MethodName) (cy : ByteArray) (ny : Nat) (ry : Option FieldType) (n : Nat) : Prop := Cond.methodLink own idx y ∈ gd_tbl ∧ Cond.initialized y.cls ∈ gd_tbl ∧ Cond.code y cy ny ry ∈ gd_tbl ∧ y.cls ≠ "java/lang/invoke/MethodHandle" ∧ y.cls ≠ "java/lang/invoke/VarHandle" ∧ (parseMethodDescriptor y.desc).map (fun d => d.parameters.length) = some n
def rmIn (a b : Room) (n : Nat) : Prop := a.frames + 1 ≤ b.frames ∧ 8 + (n + 11) + a.locals ≤ b.locals
theorem pre_blind {y : MethodName} {av : List Value} : FrameBlind (va_Pc (av.map (cR (oR Ω))) (fun U => Rep Ω σ U.heap ∧ KK Ω U ∧ (oAl Ω → ∀ q : Nat, U.heap.size ≤ q → oA Ω q))) := fun _ _ _ _ h => ⟨h.1, h.2.1, h.2.2.1.call, h.2.2.2⟩
theorem after_call {βy : Type} {emy : βy → Option Value × MS} {q : βy} {p : Program} {l : Launch} {e : Env} {R : Room} {s : State} {m : MethodId} {args : Array Value} {below : List Frame} {meth : Method} {c : Code} {H : Heap} {locs : List Loc} {ls : Array Slot} {st0 : List Value} {Q : State → Prop} {a : Array Value} {cy sy : Nat} (hS : va_S (oA Ω) s.heap H locs) (hr : va_Run p l e R s m args below meth c H locs u v cy sy (F0 m pc ls st0) (st.map (cR (oR Ω))) (QC Ω (emy q) a) (oA Ω))
    (kk : ∀ (H1 : Heap) (locs1 : List Loc), Rep Ω (emy q).2 H1 → va_S (oA Ω) s.heap H1 locs1 → W p l e R s m args below meth c H1 locs1 (u + cy) (v + sy) Q (F0 m (pc + 3) ls (((emy q).1.toList ++ st).map (cR (oR Ω))))) : W p l e R s m args below meth c H locs u v Q (F0 m pc ls st0) := by
  intro T hT X0
  obtain ⟨w, st₀, t, T', Ls, h0, X', hLs, e1, e2, ⟨hv, hRep, hF⟩, stp⟩ := hr T hT X0
  have hw : w = (emy q).1.map (cR (oR Ω)) := by injection hv
  subst hw
  rw [toList_map] at stp
  obtain ⟨hz, hk⟩ := hF
  rw [h0] at hz hk
  obtain ⟨t2, a1, b1⟩ := kk T'.heap (locs ++ Ls) (by rw [e1]; exact hRep) ⟨Nat.le_trans hS.1 (by rw [e1]; exact hz), fun q h1 h2 => by rw [e1, hk q (Nat.lt_of_lt_of_le h1 hS.1) h2]; exact hS.2.1 q h1 h2, fun x hx => by
    rcases List.mem_append.mp hx with h | h
    · exact hS.2.2 x h
    · exact hLs x h⟩ T' rfl X'
  exact ⟨t2, stp t2 a1, b1⟩
theorem g_callV {βy : Type} {emy : βy → Option Value × MS} {Ey : Option βy} {K : βy → Option β} {y : MethodName} {cy : ByteArray} {ny n b ci n2 idx : Nat} {ry : Option FieldType} {rmy : Room} {As st0 : List Value} (hX : CF X Ω own cc nL ret rm) (hd : Dc cc pc (.invokevirtual idx) 3 pc') (hl : MLk own idx y cy ny ry n) (hl2 : Cond.instanceMethod y ∈ gd_tbl ∧ Cond.selects (RF ci) y y ∈ gd_tbl) (hC : Con Ω y cy ny ry rmy emy (.ref b :: As) σ Ey) (ht : tf Ω σ b (10 + ci, n2)) (hci : ci < 13) (hst : st0 = As.reverse ++ .ref b :: st) (hn : As.length = n) (hroom : rmIn rmy rm ny) (hc : u + rmy.cells ≤ rm.cells ∧ v + rmy.slots ≤ rm.slots) (hcat : (st.map fun w => w.category).sum ≤ 8)
    (kk : ∀ q : βy, Ey = some q → GE X Ω nL mc ms em (u + rmy.cells) (v + rmy.slots) pc' L ((emy q).1.toList ++ st) (emy q).2 (K q)) : GE X Ω nL mc ms em u v pc L st0 σ (Ey.bind K) := by
  obtain ⟨p, l, e, R, s, m, args, below, meth, c⟩ := X
  obtain ⟨hx, hb, hml, hr, hown, hts, hlk, hR0, hK, hO, hA⟩ := hX
  obtain ⟨hd, rfl⟩ := hd
  subst hR0
  intro out hE H locs ls hR hS hL
  cases hEy : Ey with
  | none => rw [hEy] at hE; cases hE
  | some q =>
    rw [hEy] at hE
    obtain ⟨b1, b2⟩ := hR.tf ht
    have hwb := wsO_at Ω b1
    rw [cell_obj Ω b2 hci] at hwb
    refine after_call (q := q) (emy := emy) hS (va_runV (As := As.map (cR (oR Ω))) (b := oR Ω b) (rest := st.map (cR (oR Ω))) ⟨hx, hb, hml, hown, hts⟩ (hC l q hEy) ⟨callB_of n hts (wY_good hl.2.2.1) rfl rfl rfl (hts _ hl.2.1) (hts _ hl.1) hl.2.2.2 hroom, hts _ hl2.1, hts _ hl2.2⟩ ⟨pre_blind (y := y) (av := .ref b :: As), va_recv hK.1 hR.1 (cl_at ci hci) hwb, fun U hU hW => ⟨rfl, by rw [hU]; exact hR, hK.step hW (fun a h1 h2 => by rw [hU]; exact hS.2.1 a h1 h2), fun h q hq => hA h q (Nat.le_trans hS.1 (by rw [← hU]; exact hq))⟩⟩ rfl (by rw [List.length_map]; exact hn) hL.1 ?_ (lv_room (by rw [cat_sum]; exact hcat)) hd hc) (fun H1 locs1 hR1 hS1 => kk q hEy out hE H1 locs1 ls hR1 hS1 hL)
    show st0.map (cR (oR Ω)) = _
    rw [hst]
    simp [List.map_append, List.map_reverse, cR]
theorem g_callS {βy : Type} {emy : βy → Option Value × MS} {Ey : Option βy} {K : βy → Option β} {y : MethodName} {cy : ByteArray} {ny n idx : Nat} {ry : Option FieldType} {rmy : Room} {As st0 : List Value} (hX : CF X Ω own cc nL ret rm) (hd : Dc cc pc (.invokestatic idx) 3 pc') (hl : MLk own idx y cy ny ry n) (hl2 : Cond.static y ∈ gd_tbl) (hC : Con Ω y cy ny ry rmy emy As σ Ey) (hst : st0 = As.reverse ++ st) (hn : As.length = n) (hroom : rmIn rmy rm ny) (hc : u + rmy.cells ≤ rm.cells ∧ v + rmy.slots ≤ rm.slots) (hcat : (st.map fun w => w.category).sum ≤ 8)
    (kk : ∀ q : βy, Ey = some q → GE X Ω nL mc ms em (u + rmy.cells) (v + rmy.slots) pc' L ((emy q).1.toList ++ st) (emy q).2 (K q)) : GE X Ω nL mc ms em u v pc L st0 σ (Ey.bind K) := by
  obtain ⟨p, l, e, R, s, m, args, below, meth, c⟩ := X
  obtain ⟨hx, hb, hml, hr, hown, hts, hlk, hR0, hK, hO, hA⟩ := hX
  obtain ⟨hd, rfl⟩ := hd
  subst hR0
  intro out hE H locs ls hR hS hL
  cases hEy : Ey with
  | none => rw [hEy] at hE; cases hE
  | some q =>
    rw [hEy] at hE
    refine after_call (q := q) (emy := emy) hS (va_runS (As := As.map (cR (oR Ω))) (rest := st.map (cR (oR Ω))) ⟨hx, hb, hml, hown, hts⟩ (hC l q hEy) ⟨callB_of n hts (wY_good hl.2.2.1) rfl rfl rfl (hts _ hl.2.1) (hts _ hl.1) hl.2.2.2 hroom, hts _ hl2⟩ ⟨pre_blind (y := y) (av := As), fun U hU hW => ⟨rfl, by rw [hU]; exact hR, hK.step hW (fun a h1 h2 => by rw [hU]; exact hS.2.1 a h1 h2), fun h q hq => hA h q (Nat.le_trans hS.1 (by rw [← hU]; exact hq))⟩⟩ rfl (by rw [List.length_map]; exact hn) hL.1 ?_ (lv_room (by rw [cat_sum]; exact hcat)) hd hc) (fun H1 locs1 hR1 hS1 => kk q hEy out hE H1 locs1 ls hR1 hS1 hL)
    show st0.map (cR (oR Ω)) = _
    rw [hst]
    simp [List.map_append, List.map_reverse]
theorem g_callI {βy : Type} {emy : βy → Option Value × MS} {Ey : Option βy} {K : βy → Option β} {y : MethodName} {cy : ByteArray} {ny n b idx : Nat} {rmy : Room} {As st0 : List Value} (hX : CF X Ω own cc nL ret rm) (hd : Dc cc pc (.invokespecial idx) 3 pc') (hl : MLk own idx y cy ny none n) (hl2 : Cond.instanceMethod y ∈ gd_tbl) (hy : y.name = "<init>") (hC : Con Ω y cy ny none rmy emy (.ref b :: As) σ Ey) (hst : st0 = As.reverse ++ .ref b :: st) (hn : As.length = n) (hroom : rmIn rmy rm ny) (hc : u + rmy.cells ≤ rm.cells ∧ v + rmy.slots ≤ rm.slots) (hcat : (st.map fun w => w.category).sum ≤ 8)
    (kk : ∀ q : βy, Ey = some q → GE X Ω nL mc ms em (u + rmy.cells) (v + rmy.slots) pc' L ((emy q).1.toList ++ st) (emy q).2 (K q)) : GE X Ω nL mc ms em u v pc L st0 σ (Ey.bind K) := by
  obtain ⟨p, l, e, R, s, m, args, below, meth, c⟩ := X
  obtain ⟨hx, hb, hml, hr, hown, hts, hlk, hR0, hK, hO, hA⟩ := hX
  obtain ⟨hd, rfl⟩ := hd
  subst hR0
  intro out hE H locs ls hR hS hL
  cases hEy : Ey with
  | none => rw [hEy] at hE; cases hE
  | some q =>
    rw [hEy] at hE
    refine after_call (q := q) (emy := emy) hS (va_runI (As := As.map (cR (oR Ω))) (b := oR Ω b) (rest := st.map (cR (oR Ω))) ⟨hx, hb, hml, hown, hts⟩ (hC l q hEy) ⟨callB_of n hts (wY_good hl.2.2.1) rfl rfl rfl (hts _ hl.2.1) (hts _ hl.1) hl.2.2.2 hroom, hy, hts _ hl2⟩ ⟨pre_blind (y := y) (av := .ref b :: As), fun U hU hW => ⟨rfl, by rw [hU]; exact hR, hK.step hW (fun a h1 h2 => by rw [hU]; exact hS.2.1 a h1 h2), fun h q hq => hA h q (Nat.le_trans hS.1 (by rw [← hU]; exact hq))⟩⟩ rfl (by rw [List.length_map]; exact hn) hL.1 ?_ (lv_room (by rw [cat_sum]; exact hcat)) hd hc) (fun H1 locs1 hR1 hS1 => kk q hEy out hE H1 locs1 ls hR1 hS1 hL)
    show st0.map (cR (oR Ω)) = _
    rw [hst]
    simp [List.map_append, List.map_reverse, cR]
/-- a private constructor of a nest mate -/
theorem g_callN {βy : Type} {emy : βy → Option Value × MS} {Ey : Option βy} {K : βy → Option β} {y : MethodName} {cy : ByteArray} {ny n b idx : Nat} {host : String} {rmy : Room} {As st0 : List Value} (hX : CF X Ω own cc nL ret rm) (hd : Dc cc pc (.invokespecial idx) 3 pc') (hl : Cond.methodLinkNest own idx y host ∈ nestL) (hl3 : Cond.initialized y.cls ∈ gd_tbl ∧ Cond.code y cy ny none ∈ gd_tbl ∧ y.cls ≠ "java/lang/invoke/MethodHandle" ∧ y.cls ≠ "java/lang/invoke/VarHandle" ∧ (parseMethodDescriptor y.desc).map (fun d => d.parameters.length) = some n) (hl2 : Cond.instanceMethod y ∈ gd_tbl) (hy : y.name = "<init>") (hC : Con Ω y cy ny none rmy emy (.ref b :: As) σ Ey) (hst : st0 = As.reverse ++ .ref b :: st) (hn : As.length = n) (hroom : rmIn rmy rm ny) (hc : u + rmy.cells ≤ rm.cells ∧ v + rmy.slots ≤ rm.slots) (hcat : (st.map fun w => w.category).sum ≤ 8)
    (kk : ∀ q : βy, Ey = some q → GE X Ω nL mc ms em (u + rmy.cells) (v + rmy.slots) pc' L ((emy q).1.toList ++ st) (emy q).2 (K q)) : GE X Ω nL mc ms em u v pc L st0 σ (Ey.bind K) := by
  obtain ⟨p, l, e, R, s, m, args, below, meth, c⟩ := X
  obtain ⟨hx, hb, hml, hr, hown, hts, hlk, hR0, hK, hO, hA⟩ := hX
  obtain ⟨hd, rfl⟩ := hd
  subst hR0
  intro out hE H locs ls hR hS hL
  cases hEy : Ey with
  | none => rw [hEy] at hE; cases hE
  | some q =>
    rw [hEy] at hE
    refine after_call (q := q) (emy := emy) hS (va_runIN (As := As.map (cR (oR Ω))) (b := oR Ω b) (rest := st.map (cR (oR Ω))) ⟨hx, hb, hml, hown, hts⟩ (hC l q hEy) ⟨va_cnB n hts (wY_good hl3.2.1) rfl rfl rfl (hK.2.1 _ hl) (hts _ hl3.1) hl3.2.2 hroom, hy, hts _ hl2⟩ ⟨pre_blind (y := y) (av := .ref b :: As), fun U hU hW => ⟨rfl, by rw [hU]; exact hR, hK.step hW (fun a h1 h2 => by rw [hU]; exact hS.2.1 a h1 h2), fun h q hq => hA h q (Nat.le_trans hS.1 (by rw [← hU]; exact hq))⟩⟩ rfl (by rw [List.length_map]; exact hn) hL.1 ?_ (lv_room (by rw [cat_sum]; exact hcat)) hd hc) (fun H1 locs1 hR1 hS1 => kk q hEy out hE H1 locs1 ls hR1 hS1 hL)
    show st0.map (cR (oR Ω)) = _
    rw [hst]
    simp [List.map_append, List.map_reverse, cR]
theorem g_objinit {idx a : Nat} (hX : CF X Ω own cc nL ret rm) (hd : Dc cc pc (.invokespecial idx) 3 pc') (h1 : Cond.methodLink own idx objectInit ∈ gd_tbl) (h2 : Cond.instanceMethod objectInit ∈ gd_tbl) (h3 : Cond.code objectInit ⟨#[0xb1]⟩ 1 none ∈ gd_tbl) (hf : 1 ≤ rm.frames) (hlo : 20 ≤ rm.locals) (hcat : (st.map fun w => w.category).sum ≤ 8) (k : GE X Ω nL mc ms em u v pc' L st σ E) : GE X Ω nL mc ms em u v pc L (.ref a :: st) σ E := by
  obtain ⟨p, l, e, R, s, m, args, below, meth, c⟩ := X
  obtain ⟨hx, hb, hml, hr, hown, hts, hlk, hR0, hK, hO, hA⟩ := hX
  obtain ⟨hd, rfl⟩ := hd
  subst hR0
  intro out hE H locs ls hR hS hL
  have hq : 2 * (F0 m pc ls (((Value.ref a) :: st).map (cR (oR Ω)))).monitorRoom + ((st.map (cR (oR Ω))).map fun w => w.category).sum + 12 ≤ R.locals := by
    show 2 * 0 + _ + 12 ≤ _
    rw [cat_sum]
    omega
  refine W.objInit hx hb hown (hts _ h1) (hts _ h2) (hts _ h3) (a := oR Ω a) (rest := st.map (cR (oR Ω))) rfl (by rw [hml]; exact hL.1) rfl hd hf hq ?_
  exact W.eq (g2 := F0 m (pc + 3) ls (st.map (cR (oR Ω)))) rfl (k out hE H locs ls hR hS hL)
end GC
