/-! ===== words, the frame's facts, the judgement ===== -/
def gd_tbl : List Cond := lw_tbl.filter goodWord
theorem gd_mem {w : Cond} (i : Nat) (h : lw_tbl[i]? = some w) (g : goodWord w = true) : w ∈ gd_tbl := List.mem_filter.mpr ⟨List.mem_of_getElem? h, g⟩
theorem gd_t1 {w : Cond} (i : Nat) (h : tables_1[i]? = some w) (g : goodWord w = true) : w ∈ gd_tbl := List.mem_filter.mpr ⟨List.mem_append_right _ (List.mem_of_getElem? h), g⟩
theorem gd_ok : GoodIn gd_tbl gd_tbl := fun _ h => ⟨h, good_of_word (List.mem_filter.mp h).2⟩
def wY (y : MethodName) (cc : ByteArray) (n : Nat) (r : Option FieldType) : List Cond := .code y cc n r :: gd_tbl
theorem wY_good {y : MethodName} {cc : ByteArray} {n : Nat} {r : Option FieldType} (h : Cond.code y cc n r ∈ gd_tbl) : GoodIn gd_tbl (wY y cc n r) := by
  intro w hw
  rcases List.mem_cons.mp hw with e | hw
  · rw [e]; exact gd_ok _ h
  · exact gd_ok _ hw
def nestL : List Cond := [.methodLinkNest "StampDuchy" 9 ⟨"StampDuchy$Tape", "<init>", "()V"⟩ "StampDuchy", .methodLinkNest "StampDuchy$DuchyReader" 11 ⟨"StampDuchy$Land", "<init>", "()V"⟩ "StampDuchy", .methodLinkNest "StampDuchy" 40 ⟨"StampDuchy$World", "<init>", "()V"⟩ "StampDuchy", .methodLinkNest "StampDuchy$World" 11 ⟨"StampDuchy$Land", "<init>", "()V"⟩ "StampDuchy", .methodLinkNest "StampDuchy" 71 ⟨"StampDuchy$RelayPlan", "<init>", "()V"⟩ "StampDuchy", .methodLinkNest "StampDuchy" 78 ⟨"StampDuchy$ChainPlan", "<init>", "()V"⟩ "StampDuchy"]
def strT : List (String × Nat × String) := [("StampDuchy$DuchyReader", 66, "duchy kind person work held after"), ("StampDuchy$RuleReader", 57, "take if and or not"), ("StampDuchy$RuleReader", 97, "person work kind worth price purse holds hands hour awake sneaked stopped"), ("StampDuchyModel", 294, "duchy"), ("StampDuchyModel", 180, "kind"), ("StampDuchyModel", 176, "person"), ("StampDuchyModel", 178, "work"), ("StampDuchyModel", 296, "held"), ("StampDuchyModel", 298, "after"), ("StampDuchyModel", 351, "take"), ("StampDuchyModel", 182, "worth"), ("StampDuchyModel", 184, "price"), ("StampDuchyModel", 185, "purse"), ("StampDuchyModel", 186, "holds"), ("StampDuchyModel", 188, "hands"), ("StampDuchyModel", 189, "hour"), ("StampDuchyModel", 191, "awake"), ("StampDuchyModel", 193, "sneaked"), ("StampDuchyModel", 195, "stopped"), ("StampDuchyModel", 353, "if"), ("StampDuchyModel", 276, "not"), ("StampDuchyModel", 290, "and"), ("StampDuchyModel", 292, "or")]
def slen : List Nat := [33, 18, 73, 5, 4, 6, 4, 4, 5, 4, 5, 5, 5, 5, 5, 4, 5, 7, 7, 2, 3, 3, 2]
def sbyt : List (List Int32) := [[100, 117, 99, 104, 121, 32, 107, 105, 110, 100, 32, 112, 101, 114, 115, 111, 110, 32, 119, 111, 114, 107, 32, 104, 101, 108, 100, 32, 97, 102, 116, 101, 114], [116, 97, 107, 101, 32, 105, 102, 32, 97, 110, 100, 32, 111, 114, 32, 110, 111, 116], [112, 101, 114, 115, 111, 110, 32, 119, 111, 114, 107, 32, 107, 105, 110, 100, 32, 119, 111, 114, 116, 104, 32, 112, 114, 105, 99, 101, 32, 112, 117, 114, 115, 101, 32, 104, 111, 108, 100, 115, 32, 104, 97, 110, 100, 115, 32, 104, 111, 117, 114, 32, 97, 119, 97, 107, 101, 32, 115, 110, 101, 97, 107, 101, 100, 32, 115, 116, 111, 112, 112, 101, 100], [100, 117, 99, 104, 121], [107, 105, 110, 100], [112, 101, 114, 115, 111, 110], [119, 111, 114, 107], [104, 101, 108, 100], [97, 102, 116, 101, 114], [116, 97, 107, 101], [119, 111, 114, 116, 104], [112, 114, 105, 99, 101], [112, 117, 114, 115, 101], [104, 111, 108, 100, 115], [104, 97, 110, 100, 115], [104, 111, 117, 114], [97, 119, 97, 107, 101], [115, 110, 101, 97, 107, 101, 100], [115, 116, 111, 112, 112, 101, 100], [105, 102], [110, 111, 116], [97, 110, 100], [111, 114]]
def levT : List Int32 := [9, 9, 6, 6, 6, 5, 5, 4, 4, 4, 4, 4, 3, 2, 1, 0]
def tyL (Ω : OM) : List (ClassId × FieldType) := [(oDA Ω 0, .int), (oDA Ω 1, .byte), (oDA Ω 2, .boolean), (oDA Ω 3, .long), (oDA Ω 4, .object RX8), (oDA Ω 5, .object RX6), (oDA Ω 6, .object RX10)]
def KK (Ω : OM) (U : State) : Prop :=
  va_K (oD Ω) classes (tyL Ω) U ∧ (∀ w ∈ nestL, va_Nw w U) ∧ (∀ (i : Nat) (q : String × Nat × String), strT[i]? = some q → vk_R q.1 q.2.1 q.2.2 (oK Ω i) U) ∧ vk_S 23 slen sbyt (oK Ω) (oV Ω) (oA Ω) U U.heap
  ∧ va_Z RX7 "LEVEL" "[I" (.ref (oK Ω 100)) (oA Ω) U U.heap ∧ va_T .int (oK Ω 100) 16 (fun j => .int (levT.getD j 0)) (oA Ω) U U.heap
  ∧ va_Z "java/lang/String" "COMPACT_STRINGS" "Z" (.int 1) (oA Ω) U U.heap ∧ (va_Z "jdk/internal/util/Preconditions" "SIOOBE_FORMATTER" "Ljava/util/function/BiFunction;" .null (oA Ω) U U.heap ∨ va_Z "jdk/internal/util/Preconditions" "SIOOBE_FORMATTER" "Ljava/util/function/BiFunction;" (.ref (oK Ω 101)) (oA Ω) U U.heap) ∧ (va_AO RX8 U ∧ va_AO RX6 U ∧ va_AO RX10 U)
theorem nestL_warm {s U : State} (hW : s.WarmedH U.vm) (h : ∀ w ∈ nestL, va_Nw w s) : ∀ w ∈ nestL, va_Nw w U := by
  intro w hw
  have h2 := h w hw
  simp only [nestL, List.mem_cons, List.not_mem_nil, or_false] at hw
  rcases hw with e | e | e | e | e | e <;> (subst e; exact va_Nw.warmM hW h2)
theorem KK.step {Ω : OM} {s U : State} (h : KK Ω s) (hW : s.WarmedH U.vm) (hk : ∀ a : Nat, a < s.heap.size → ¬ oA Ω a → U.heap[a]? = s.heap[a]?) : KK Ω U := by
  obtain ⟨h1, h2, h3, h4, h5, h6, h7, h8, h9⟩ := h
  exact ⟨va_K.moved hW.alike h1, nestL_warm hW h2, fun i q hq => vk_R.warm hW (h3 i q hq), vk_S.kept (vk_S.moved hW.alike h4) hk, va_Z.kept (va_Z.moved hW.alike h5) hk, va_T.kept (va_T.moved hW.alike h6) hk, va_Z.kept (va_Z.moved hW.alike h7) hk, h8.imp (fun h => va_Z.kept (va_Z.moved hW.alike h) hk) (fun h => va_Z.kept (va_Z.moved hW.alike h) hk), va_AO.moved hW.alike h9.1, va_AO.moved hW.alike h9.2.1, va_AO.moved hW.alike h9.2.2⟩
theorem nestL_same {u U : State} (hv : u.vm = U.vm) (h : ∀ w ∈ nestL, va_Nw w u) : ∀ w ∈ nestL, va_Nw w U := by
  intro w hw
  have h2 := h w hw
  simp only [nestL, List.mem_cons, List.not_mem_nil, or_false] at hw
  rcases hw with e | e | e | e | e | e <;> (subst e; exact va_Nw.same rfl hv h2)
theorem KK.call {Ω : OM} {U : State} {g : JFrame} {mk : MethodId} {a : Array Value} (h : KK Ω U) : KK Ω (U.calling g mk a) := by
  obtain ⟨h1, h2, h3, h4, h5, h6, h7, h8, h9⟩ := h
  have hA : U.vm.Alike (U.calling g mk a).vm := Vm.Alike.refl U.vm
  exact ⟨va_K.moved (u := U) (U := U.calling g mk a) hA h1, nestL_same (u := U) (U := U.calling g mk a) rfl h2, fun i q hq => vk_R.same (u := U) (U := U.calling g mk a) rfl (h3 i q hq), vk_S.moved (u := U) (U := U.calling g mk a) hA h4, va_Z.moved (u := U) (U := U.calling g mk a) hA h5, va_T.moved (u := U) (U := U.calling g mk a) hA h6, va_Z.moved (u := U) (U := U.calling g mk a) hA h7, h8.imp (fun h => va_Z.moved (u := U) (U := U.calling g mk a) hA h) (fun h => va_Z.moved (u := U) (U := U.calling g mk a) hA h), va_AO.moved (u := U) (U := U.calling g mk a) hA h9.1, va_AO.moved (u := U) (U := U.calling g mk a) hA h9.2.1, va_AO.moved (u := U) (U := U.calling g mk a) hA h9.2.2⟩
abbrev CX : Type := Program × Launch × Env × Room × State × MethodId × Array Value × List Frame × Method × Code
/-- what stands of the places themselves -/
def OKO (Ω : OM) : Prop := (∀ i j : Nat, i < 1000000 → j < 1000000 → oR Ω i = oR Ω j → i = j) ∧ (oAl Ω → ∀ n : Nat, oN Ω ≤ n → n < 1000000 → oR Ω n = oZ Ω n ∧ oZ Ω (n + 1) = oZ Ω n + 1) ∧ (∀ i : Nat, i < 23 ∨ i = 100 ∨ i = 101 → oR Ω (1000000 + i) = oK Ω i) ∧ (∀ i : Nat, i < 23 → oR Ω (1000200 + i) = oV Ω i) ∧ (oSH Ω).length ≤ oN Ω
/-- the frame's facts -/
def CF (X : CX) (Ω : OM) (own : String) (cc : ByteArray) (nL : Nat) (ret : Option FieldType) (rm : Room) : Prop := match X with
  | (p, _, _, R, s, m, args, _, meth, c) => p.tables.exec = Jvm.exec ∧ c.code = cc ∧ c.maxLocals = nL ∧ meth.sig.returnType = ret ∧ s.vm.findClass own = some m.cls ∧ (∀ w ∈ gd_tbl, w.before args s = true) ∧ meth.locks = false ∧ R = rm ∧ KK Ω s ∧ OKO Ω ∧ (oAl Ω → ∀ q : Nat, s.heap.size ≤ q → oA Ω q)
def QC (Ω : OM) (b : Option Value × MS) : Array Value → State → Outcome → State → Prop := fun _ st o t => o = .returned (b.1.map (cR (oR Ω))) ∧ Rep Ω b.2 t.heap ∧ va_F (oA Ω) st t
/-- from here the method comes to its end with what E says -/
def GE (X : CX) (Ω : OM) (nL mc ms : Nat) {β : Type} (em : β → Option Value × MS) (u v pc : Nat) (L : List (Nat × Value)) (st : List Value) (σ : MS) (E : Option β) : Prop := match X with
  | (p, l, e, R, s, m, args, below, meth, c) => ∀ out : β, E = some out → ∀ (H : Heap) (locs : List Loc) (ls : Array Slot), Rep Ω σ H → va_S (oA Ω) s.heap H locs → lv_has ls nL (L.map fun q => (q.1, cR (oR Ω) q.2)) →
    W p l e R s m args below meth c H locs u v (MQ below (QC Ω (em out)) args s mc ms (oA Ω)) (F0 m pc ls (st.map (cR (oR Ω))))
def chk (c : Prop) [Decidable c] {β : Type} (E : Option β) : Option β := if c then E else none
/-- a place of code -/
def Dc (cc : ByteArray) (pc : Nat) (i : Instr) (n pc' : Nat) : Prop := decode cc pc = .ok (i, n) ∧ pc + n = pc'
section GR
variable {X : CX} {Ω : OM} {own : String} {cc : ByteArray} {nL mc ms : Nat} {ret : Option FieldType} {rm : Room} {β : Type} {em : β → Option Value × MS} {u v pc pc' : Nat} {L L' : List (Nat × Value)} {st : List Value} {σ : MS} {E E1 E2 : Option β}
theorem g_none : GE X Ω nL mc ms em u v pc L st σ (none : Option β) := by
  obtain ⟨p, l, e, R, s, m, args, below, meth, c⟩ := X
  intro out h
  cases h
theorem g_chk {c : Prop} [Decidable c] (h : c → GE X Ω nL mc ms em u v pc L st σ E) : GE X Ω nL mc ms em u v pc L st σ (chk c E) := by
  by_cases hc : c
  · unfold chk
    rw [if_pos hc]; exact h hc
  · unfold chk
    rw [if_neg hc]; exact g_none
theorem g_ite {c : Prop} [Decidable c] (h1 : c → GE X Ω nL mc ms em u v pc L st σ E1) (h2 : ¬ c → GE X Ω nL mc ms em u v pc L st σ E2) : GE X Ω nL mc ms em u v pc L st σ (if c then E1 else E2) := by
  by_cases hc : c
  · rw [if_pos hc]; exact h1 hc
  · rw [if_neg hc]; exact h2 hc
def onr {β : Type} (r : Option Nat) (E1 : Option β) (E2 : Nat → Option β) : Option β := match r with
  | none => E1
  | some a => E2 a
/-- fewer locals, in another order -/
theorem g_sub (ks : List Nat) (hl : lv_pick L ks = L') (k : GE X Ω nL mc ms em u v pc L' st σ E) : GE X Ω nL mc ms em u v pc L st σ E := by
  obtain ⟨p, l, e, R, s, m, args, below, meth, c⟩ := X
  intro out hE H locs ls hR hS hL
  refine k out hE H locs ls hR hS (lv_sub hL ks ?_)
  rw [← hl]
  simp only [lv_pick, List.map_filterMap]
  congr 1
  funext j
  simp [List.getElem?_map]
theorem g_widen {u' v' : Nat} (h1 : u ≤ u') (h2 : v ≤ v') (k : GE X Ω nL mc ms em u' v' pc L st σ E) : GE X Ω nL mc ms em u v pc L st σ E := by
  obtain ⟨p, l, e, R, s, m, args, below, meth, c⟩ := X
  intro out hE H locs ls hR hS hL
  exact W.widen h1 h2 (k out hE H locs ls hR hS hL)
def WQ (X : CX) (H : Heap) (locs : List Loc) (u v : Nat) (Q : State → Prop) (pc : Nat) (ls : Array Slot) (st : List Value) : Prop := match X with
  | (p, l, e, R, s, m, args, below, meth, c) => W p l e R s m args below meth c H locs u v Q (F0 m pc ls st)
theorem g_pure {st' : List Value} (h : ∀ (H : Heap) (locs : List Loc) (ls : Array Slot) (Q : State → Prop), WQ X H locs u v Q pc' ls (st'.map (cR (oR Ω))) → WQ X H locs u v Q pc ls (st.map (cR (oR Ω)))) (k : GE X Ω nL mc ms em u v pc' L st' σ E) : GE X Ω nL mc ms em u v pc L st σ E := by
  obtain ⟨p, l, e, R, s, m, args, below, meth, c⟩ := X
  intro out hE H locs ls hR hS hL
  exact h H locs ls _ (k out hE H locs ls hR hS hL)
theorem cR_cat (ρ : Nat → Nat) (w : Value) : (cR ρ w).category = w.category := by cases w <;> rfl
theorem cR_rf (ρ : Nat → Nat) (r : Option Nat) : cR ρ (va_rf r) = va_rf (r.map ρ) := by cases r <;> rfl
def stL (i : Nat) (w : Value) (L : List (Nat × Value)) : List (Nat × Value) := (i, w) :: L.filter (fun q => !(q.1 == i) && !(q.1 + 1 == i && q.2.category == 2))
def stL2 (i : Nat) (w : Value) (L : List (Nat × Value)) : List (Nat × Value) := (i, w) :: L.filter (fun q => !(q.1 == i) && (!(q.1 == i + 1) && !(q.1 + 1 == i && q.2.category == 2)))
theorem stL_map (ρ : Nat → Nat) (i : Nat) (w : Value) (L : List (Nat × Value)) : (i, cR ρ w) :: (L.map fun q => (q.1, cR ρ q.2)).filter (fun q => !(q.1 == i) && !(q.1 + 1 == i && q.2.category == 2)) = (stL i w L).map fun q => (q.1, cR ρ q.2) := by
  simp only [stL, List.map_cons, List.filter_map]
  congr 2
  apply List.filter_congr
  intro q _
  simp [Function.comp, cR_cat]
theorem stL2_map (ρ : Nat → Nat) (i : Nat) (w : Value) (L : List (Nat × Value)) : (i, cR ρ w) :: (L.map fun q => (q.1, cR ρ q.2)).filter (fun q => !(q.1 == i) && (!(q.1 == i + 1) && !(q.1 + 1 == i && q.2.category == 2))) = (stL2 i w L).map fun q => (q.1, cR ρ q.2) := by
  simp only [stL2, List.map_cons, List.filter_map]
  congr 2
  apply List.filter_congr
  intro q _
  simp [Function.comp, cR_cat]
end GR
