/-! ===== the abstract memory: places, shapes, contents ===== -/
abbrev MS : Type := Nat × (Nat → Nat × Nat) × (Nat → Nat → Int32) × (Nat → Nat → Int64) × (Nat → Nat → Option Nat)
def sN (σ : MS) : Nat := σ.1
def sS (σ : MS) : Nat → Nat × Nat := σ.2.1
def sI (σ : MS) : Nat → Nat → Int32 := σ.2.2.1
def sJ (σ : MS) : Nat → Nat → Int64 := σ.2.2.2.1
def sR (σ : MS) : Nat → Nat → Option Nat := σ.2.2.2.2
def up1 {α : Type} (f : Nat → α) (a : Nat) (v : α) : Nat → α := fun b => if b = a then v else f b
def up2 {α : Type} (f : Nat → Nat → α) (a k : Nat) (v : α) : Nat → Nat → α := fun b j => if b = a then (if j = k then v else f b j) else f b j
def wI (σ : MS) (a k : Nat) (v : Int32) : MS := (σ.1, σ.2.1, up2 σ.2.2.1 a k v, σ.2.2.2.1, σ.2.2.2.2)
def wJ (σ : MS) (a k : Nat) (v : Int64) : MS := (σ.1, σ.2.1, σ.2.2.1, up2 σ.2.2.2.1 a k v, σ.2.2.2.2)
def wR (σ : MS) (a k : Nat) (v : Option Nat) : MS := (σ.1, σ.2.1, σ.2.2.1, σ.2.2.2.1, up2 σ.2.2.2.2 a k v)
/-- a row of ints, whole -/
def wW (σ : MS) (a : Nat) (f : Nat → Int32) : MS := (σ.1, σ.2.1, up1 σ.2.2.1 a f, σ.2.2.2.1, σ.2.2.2.2)
/-- a new cell -/
def al (σ : MS) (kd n : Nat) : MS := (σ.1 + 1, up1 σ.2.1 σ.1 (kd, n), up1 σ.2.2.1 σ.1 (fun _ => 0), up1 σ.2.2.2.1 σ.1 (fun _ => 0), up1 σ.2.2.2.2 σ.1 (fun _ => none))
/-- an object is finished: its last references stand where they belong -/
def fin (σ : MS) (a ci : Nat) : MS := (σ.1, up1 σ.2.1 a (10 + ci, 0), σ.2.2.1, σ.2.2.2.1, σ.2.2.2.2)
theorem up1_s {α : Type} (f : Nat → α) (a : Nat) (v : α) : up1 f a v a = v := by simp [up1]
theorem up1_n {α : Type} (f : Nat → α) {a b : Nat} (v : α) (h : b ≠ a) : up1 f a v b = f b := by simp [up1, h]
theorem up2_s {α : Type} (f : Nat → Nat → α) (a k : Nat) (v : α) : up2 f a k v a k = v := by simp [up2]
theorem up2_n {α : Type} (f : Nat → Nat → α) {a b : Nat} (k j : Nat) (v : α) (h : b ≠ a) : up2 f a k v b j = f b j := by simp [up2, h]
theorem up2_k {α : Type} (f : Nat → Nat → α) (a : Nat) {k j : Nat} (v : α) (h : j ≠ k) : up2 f a k v a j = f a j := by simp [up2, h]
theorem up2_row {α : Type} (f : Nat → Nat → α) (a k : Nat) (v : α) : up2 f a k v a = fun j => if j = k then v else f a j := by funext j; simp [up2]
theorem up2_rowN {α : Type} (f : Nat → Nat → α) {a b : Nat} (k : Nat) (v : α) (h : b ≠ a) : up2 f a k v b = f b := by funext j; simp [up2, h]
/-- the classes -/
abbrev classes : List vw_C := [(RX0, TX0, 3), (RX1, TX1, 4), (RX2, TX2, 2), (RX3, TX3, 13), (RX4, TX4, 7), (RX5, TX5, 2), (RX6, TX6, 1), (RX7, TX7, 9), (RX8, TX8, 6), (RX9, TX9, 2), (RX10, TX10, 11), (RX11, TX11, 13), (RX12, TX12, 64)]
def nf (ci : Nat) : Nat := [3, 4, 2, 13, 7, 2, 1, 9, 6, 2, 11, 13, 64].getD ci 0
def tyF (ci : Nat) : Nat → FieldType := [tyX0, tyX1, tyX2, tyX3, tyX4, tyX5, tyX6, tyX7, tyX8, tyX9, tyX10, tyX11, tyX12].getD ci (fun _ => .int)
def TF (ci : Nat) : u_T := [TX0, TX1, TX2, TX3, TX4, TX5, TX6, TX7, TX8, TX9, TX10, TX11, TX12].getD ci (fun _ => ("", "", "", false))
def RF (ci : Nat) : String := [RX0, RX1, RX2, RX3, RX4, RX5, RX6, RX7, RX8, RX9, RX10, RX11, RX12].getD ci ""
/-- 0: a number; 1: a reference that may change; 2: one that is given once -/
def fkOf (t : FieldType) (f : Bool) : Nat := match t with
  | .array _ => if f then 2 else 1
  | .object _ => if f then 2 else 1
  | _ => 0
def fk (ci k : Nat) : Nat := fkOf (tyF ci k) (TF ci k).2.2.2
def fpT (ci k : Nat) : Bool × Nat := (([[(false, 1), (false, 2), (false, 0)],
  [(false, 1), (true, 23), (false, 0), (false, 0)],
  [(false, 13), (false, 1)],
  [(false, 0), (false, 0), (false, 0), (false, 0), (false, 0), (false, 1), (false, 2), (false, 3), (false, 4), (false, 5), (false, 6), (false, 7), (false, 8)],
  [(true, 1), (false, 0), (false, 0), (false, 0), (false, 0), (false, 0), (false, 0)],
  [(false, 1), (false, 0)],
  [(false, 1)],
  [(false, 3), (false, 1), (false, 0), (false, 0), (false, 0), (false, 0), (false, 0), (false, 2), (false, 0)],
  [(false, 1), (false, 2), (false, 3), (false, 0), (false, 0), (false, 0)],
  [(false, 1), (false, 0)],
  [(false, 1), (false, 13), (false, 17), (false, 0), (false, 0), (false, 18), (false, 19), (false, 20), (false, 0), (false, 0), (false, 0)],
  [(false, 1), (false, 3), (false, 17), (false, 21), (false, 22), (false, 43), (false, 44), (false, 46), (false, 50), (false, 52), (false, 55), (false, 0), (false, 0)],
  [(false, 0), (false, 1), (false, 2), (false, 3), (false, 4), (false, 5), (false, 6), (false, 7), (false, 8), (false, 9), (false, 10), (false, 11), (false, 12), (false, 13), (false, 14), (false, 15), (false, 16), (false, 17), (false, 18), (false, 19), (false, 20), (false, 21), (false, 22), (false, 23), (false, 24), (false, 25), (false, 26), (false, 27), (false, 0), (false, 0), (false, 0), (false, 0), (false, 0), (false, 0), (false, 0), (false, 0), (false, 0), (false, 0), (false, 0), (false, 28), (false, 29), (false, 30), (false, 31), (false, 32), (false, 33), (false, 34), (false, 35), (false, 36), (false, 37), (false, 38), (false, 39), (false, 0), (false, 0), (false, 0), (false, 40), (false, 41), (false, 42), (false, 43), (false, 44), (false, 45), (false, 46), (false, 47), (false, 0), (false, 0)]] : List (List (Bool × Nat))).getD ci []).getD k (false, 0)
def FP (ci k a : Nat) : Nat := if (fpT ci k).1 then (fpT ci k).2 else a + (fpT ci k).2
def SHX : List (Nat × Nat) := [(21, 0), (19, 0), (0, 400), (12, 0), (13, 0), (0, 5), (0, 5), (0, 4), (0, 4), (0, 4), (0, 6), (0, 6), (18, 0), (0, 6), (0, 6), (0, 4), (14, 0), (17, 0), (0, 64), (0, 401), (14, 0), (5, 6), (20, 0), (13, 0), (0, 5), (0, 5), (0, 4), (0, 4), (0, 4), (0, 6), (0, 6), (18, 0), (0, 6), (0, 6), (0, 4), (18, 0), (0, 6), (0, 6), (0, 4), (4, 20), (0, 10), (0, 10), (0, 10), (6, 4), (11, 0), (3, 64), (18, 0), (0, 6), (0, 6), (0, 4), (15, 0), (0, 192), (10, 0), (0, 6), (0, 6), (0, 42)]
def SHM : List (Nat × Nat) := [(22, 0), (0, 10), (0, 5), (0, 5), (0, 4), (0, 4), (0, 4), (0, 4), (0, 6), (0, 6), (0, 6), (0, 6), (0, 10), (0, 10), (0, 10), (0, 4), (0, 6), (0, 1), (0, 5), (0, 5), (0, 5), (0, 4), (0, 4), (0, 4), (0, 4), (0, 6), (0, 6), (0, 6), (1, 400), (0, 1800), (0, 1800), (0, 6), (0, 72), (0, 72), (0, 72), (0, 402), (3, 12), (3, 300), (0, 380), (0, 1), (0, 196), (0, 6), (0, 6), (0, 6), (0, 30), (0, 2750), (2, 4), (2, 4)]
def cR (ρ : Nat → Nat) (v : Value) : Value := match v with
  | .ref a => .ref (ρ a)
  | w => w
def fv (σ : MS) (raw : Bool) (ci k a : Nat) : Value := if fk ci k = 0 then .int (sI σ a k) else if fk ci k = 1 then va_rf (sR σ a k) else if raw then va_rf (sR σ a k) else .ref (FP ci k a)
def cellE (ρ dA : Nat → Nat) (σ : MS) (i : Nat) : va_E :=
  if (sS σ i).1 < 3 then .inl (dA (sS σ i).1, ((sS σ i).2, .inl (sI σ i)))
  else if (sS σ i).1 = 3 then .inl (dA 3, ((sS σ i).2, .inr (.inl (sJ σ i))))
  else if (sS σ i).1 < 7 then .inl (dA (sS σ i).1, ((sS σ i).2, .inr (.inr (.inr (.inr (fun j => (sR σ i j).map ρ))))))
  else if (sS σ i).1 < 30 then .inr ((sS σ i).1 - 10, (List.range (nf ((sS σ i).1 - 10))).map (fun k => cR ρ (fv σ false ((sS σ i).1 - 10) k i)))
  else .inr ((sS σ i).1 - 30, (List.range (nf ((sS σ i).1 - 30))).map (fun k => cR ρ (fv σ true ((sS σ i).1 - 30) k i)))
/-- where all lies: places to addresses, array classes, classes, slots, what may change, the next address, whether cells may come, from which place on, the shapes that stay, texts -/
abbrev OM : Type := (Nat → Nat) × (Nat → Nat) × (Nat → ClassId) × (Nat → Nat → Nat) × (Nat → Prop) × (Nat → Nat) × Prop × Nat × List (Nat × Nat) × (Nat → Nat) × (Nat → Nat)
def oR (Ω : OM) : Nat → Nat := Ω.1
def oDA (Ω : OM) : Nat → Nat := Ω.2.1
def oD (Ω : OM) : va_G := (Ω.2.2.1, Ω.2.2.2.1)
def oA (Ω : OM) : Nat → Prop := Ω.2.2.2.2.1
def oZ (Ω : OM) : Nat → Nat := Ω.2.2.2.2.2.1
def oAl (Ω : OM) : Prop := Ω.2.2.2.2.2.2.1
def oN (Ω : OM) : Nat := Ω.2.2.2.2.2.2.2.1
def oSH (Ω : OM) : List (Nat × Nat) := Ω.2.2.2.2.2.2.2.2.1
def oK (Ω : OM) : Nat → Nat := Ω.2.2.2.2.2.2.2.2.2.1
def oV (Ω : OM) : Nat → Nat := Ω.2.2.2.2.2.2.2.2.2.2
def wsO (Ω : OM) (σ : MS) : va_W := (List.range (sN σ)).map (fun i => (oR Ω i, cellE (oR Ω) (oDA Ω) σ i))
def Rep (Ω : OM) (σ : MS) (H : Heap) : Prop := va_P (oD Ω) classes (wsO Ω σ) H ∧ va_D (oA Ω) (wsO Ω σ) ∧ ((oAl Ω → oN Ω ≤ sN σ ∧ H.size = oZ Ω (sN σ)) ∧ (¬ oAl Ω → H.size = oZ Ω 0)) ∧ (∀ (i : Nat) (q : Nat × Nat), (oSH Ω)[i]? = some q → i < sN σ ∧ sS σ i = q)
/-- the shape of a place, known for good or now -/
def tf (Ω : OM) (σ : MS) (a : Nat) (q : Nat × Nat) : Prop := (oSH Ω)[a]? = some q ∨ (a < sN σ ∧ sS σ a = q)
theorem Rep.tf {Ω : OM} {σ : MS} {H : Heap} (h : Rep Ω σ H) {a : Nat} {q : Nat × Nat} (ht : tf Ω σ a q) : a < sN σ ∧ sS σ a = q := by
  rcases ht with ht | ht
  · exact h.2.2.2 a q ht
  · exact ht
theorem wsO_at (Ω : OM) {σ : MS} {i : Nat} (h : i < sN σ) : (wsO Ω σ)[i]? = some (oR Ω i, cellE (oR Ω) (oDA Ω) σ i) := by
  simp [wsO, h]
theorem wsO_set (Ω : OM) {σ σ' : MS} {i : Nat} {e : va_E} (h : i < sN σ) (hn : sN σ' = sN σ) (he : e = cellE (oR Ω) (oDA Ω) σ' i) (ho : ∀ j, j ≠ i → cellE (oR Ω) (oDA Ω) σ' j = cellE (oR Ω) (oDA Ω) σ j) : (wsO Ω σ).set i (oR Ω i, e) = wsO Ω σ' := by
  apply List.ext_getElem?
  intro j
  by_cases hj : j < sN σ
  · rw [wsO_at Ω (by rw [hn]; exact hj)]
    by_cases hji : j = i
    · subst hji
      rw [List.getElem?_set_self (by simp [wsO]; exact hj), he]
    · rw [List.getElem?_set_ne (fun q => hji q.symm), wsO_at Ω hj, ho j hji]
  · rw [List.getElem?_eq_none (by simp [wsO]; omega), List.getElem?_eq_none (by simp [wsO, hn]; omega)]
theorem cell_int (Ω : OM) {σ : MS} {a kd n : Nat} (h : sS σ a = (kd, n)) (hk : kd < 3) : cellE (oR Ω) (oDA Ω) σ a = .inl (oDA Ω kd, (n, .inl (sI σ a))) := by
  simp [cellE, h, hk]
theorem cell_long (Ω : OM) {σ : MS} {a n : Nat} (h : sS σ a = (3, n)) : cellE (oR Ω) (oDA Ω) σ a = .inl (oDA Ω 3, (n, .inr (.inl (sJ σ a)))) := by
  simp [cellE, h]
theorem cell_ref (Ω : OM) {σ : MS} {a kd n : Nat} (h : sS σ a = (kd, n)) (h1 : 3 < kd) (h2 : kd < 7) : cellE (oR Ω) (oDA Ω) σ a = .inl (oDA Ω kd, (n, .inr (.inr (.inr (.inr (fun j => (sR σ a j).map (oR Ω))))))) := by
  have h3 : ¬ kd < 3 := by omega
  have h4 : ¬ kd = 3 := by omega
  simp [cellE, h, h3, h4, h2]
theorem cell_obj (Ω : OM) {σ : MS} {a ci n : Nat} (h : sS σ a = (10 + ci, n)) (hc : ci < 13) : cellE (oR Ω) (oDA Ω) σ a = .inr (ci, (List.range (nf ci)).map (fun k => cR (oR Ω) (fv σ false ci k a))) := by
  have h3 : ¬ 10 + ci < 3 := by omega
  have h4 : ¬ 10 + ci = 3 := by omega
  have h5 : ¬ 10 + ci < 7 := by omega
  have h6 : 10 + ci < 30 := by omega
  simp [cellE, h, h3, h4, h5, h6]
theorem cell_raw (Ω : OM) {σ : MS} {a ci n : Nat} (h : sS σ a = (30 + ci, n)) : cellE (oR Ω) (oDA Ω) σ a = .inr (ci, (List.range (nf ci)).map (fun k => cR (oR Ω) (fv σ true ci k a))) := by
  have h3 : ¬ 30 + ci < 3 := by omega
  have h4 : ¬ 30 + ci = 3 := by omega
  have h5 : ¬ 30 + ci < 7 := by omega
  have h6 : ¬ 30 + ci < 30 := by omega
  simp [cellE, h, h3, h4, h5, h6]
theorem cell_of {ρ dA : Nat → Nat} {σ σ' : MS} {j : Nat} (hS : sS σ' j = sS σ j) (hI : sI σ' j = sI σ j) (hJ : sJ σ' j = sJ σ j) (hR : sR σ' j = sR σ j) : cellE ρ dA σ' j = cellE ρ dA σ j := by
  unfold cellE fv
  rw [hS, hI, hJ, hR]
