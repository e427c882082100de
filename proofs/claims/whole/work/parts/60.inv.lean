/-! ===== pure: what stands for what, all of it ===== -/
section
/-- a world: numbers (0 told, 1 kinds, 2 people, 3 works, 4 the rule in force, 5 x, 6 logs, 7 acts), land, state, state at the begin, states to go back to (the last first), logs -/
abbrev Wd : Type := (Nat → Nat) × Row2 × Row2 × Row2 × (Nat → Row2) × Row2
def wc (W : Wd) : Nat → Nat := W.1
def wL (W : Wd) : Row2 := W.2.1
def wS (W : Wd) : Row2 := W.2.2.1
def wB (W : Wd) : Row2 := W.2.2.2.1
def wQ (W : Wd) : Nat → Row2 := W.2.2.2.2.1
def wG (W : Wd) : Row2 := W.2.2.2.2.2
def WW (W : Wd) : Prop :=
  (wc W 0 ≤ 1 ∧ wc W 4 ≤ 6 ∧ wc W 5 < 2 ^ 31 ∧ wc W 6 ≤ 10 ∧ wc W 7 ≤ 20) ∧
  (WL (wc W 1) (wc W 2) (wc W 3) (wL W) ∧ ∀ p, p < wc W 2 → wL W 4 p ≤ 3) ∧
  (WS (wc W 2) (wc W 3) (wS W) ∧ wS W 3 5 ≤ 999) ∧
  (WS (wc W 2) (wc W 3) (wB W) ∧ wB W 3 5 = 0 ∧ wB W 3 3 = 0 ∧ ∀ w, w < 6 → wB W 1 w = 0) ∧
  (∀ i, i < wc W 7 → WS (wc W 2) (wc W 3) (wQ W i) ∧ wQ W i 3 5 ≤ 999) ∧
  (∀ i, i < wc W 6 → wG W 0 i ≤ 60 ∧ wG W 1 i < wc W 3 ∧ wG W 2 i ≤ wc W 2)
/-- a world in the class's memory; ow says whose a place is -/
def XW (ow : Nat → Nat) (v a : Nat) (σ : MS) (W : Wd) : Prop :=
  (sI σ (a + 1) 0 = nI (wc W 0) ∧ LX (a + 1) σ (wc W 1) (wc W 2) (wc W 3) (wL W)) ∧ SX (a + 9) σ (wB W) ∧ SX (a + 13) σ (wS W) ∧
  (sI σ a 9 = hI (wc W 4) ∧ sI σ a 10 = nI (wc W 5) ∧ sI σ a 8 = nI (wc W 6) ∧ sI σ a 4 = nI (wc W 7)) ∧
  (∀ i, i < wc W 6 → sI σ (a + 18) i = nI (wG W 0 i) ∧ sI σ (a + 19) i = nI (wG W 1 i) ∧ sI σ (a + 20) i = hI (wG W 2 i)) ∧
  ∃ np, np < 20 ∧ sI σ a 3 = nI np ∧ (∀ s, s < 20 → ∀ b, sR σ (a + 17) s = some b → 56 ≤ b ∧ dRt σ b shState ∧ ∀ i, i < 4 → ow (b + i) = 100 + 20 * v + s) ∧ (∀ i, i < wc W 7 → ∃ b, sR σ (a + 17) ((np + 19 - i) % 20) = some b ∧ SX b σ (wQ W i))
/-- a state in the reference's row of acts -/
def PM (σ : MS) (P N t : Nat) (S : Row2) : Prop := sI σ 38 (19 * t) = nI (S 3 4) ∧ sI σ 38 (19 * t + 1) = nI (S 3 5) ∧ sI σ 38 (19 * t + 2) = nI (S 3 3) ∧ (∀ p, p < P → sI σ 38 (19 * t + 3 + p) = nI (S 2 p)) ∧ (∀ w, w < N → sI σ 38 (19 * t + 7 + w) = hI (S 0 w) ∧ sI σ 38 (19 * t + 13 + w) = nI (S 1 w))
def MW (σ : MS) (W : Wd) : Prop :=
  (sI σ 0 28 = nI (wc W 0) ∧ LM σ (wc W 1) (wc W 2) (wc W 3) (wL W)) ∧ SM σ (wc W 2) (wc W 3) (wS W) ∧
  ((∀ p, p < wc W 2 → sI σ 15 p = nI (wB W 2 p)) ∧ (∀ w, w < wc W 3 → sI σ 16 w = hI (wB W 0 w)) ∧ sI σ 17 0 = nI (wB W 3 4)) ∧
  (sI σ 1 9 = hI (wc W 4) ∧ sI σ 1 8 = nI (wc W 5) ∧ sI σ 1 7 = nI (wc W 6) ∧ sI σ 0 51 = nI (wc W 7)) ∧
  (∀ i, i < wc W 6 → sI σ 12 i = nI (wG W 0 i) ∧ sI σ 13 i = nI (wG W 1 i) ∧ sI σ 14 i = hI (wG W 2 i)) ∧
  (∀ i, i < wc W 7 → PM σ (wc W 2) (wc W 3) (wc W 7 - 1 - i) (wQ W i))
/-- the k-th image of the reference, read as a memory -/
def iof (r : Nat) : Nat := [0, 0, 27, 32, 10, 37, 41, 45, 49, 14, 20, 55, 61, 71, 81, 91, 95, 101].getD r 102
def mImg (σ : MS) (k : Nat) : MS := (sN σ, sS σ, (fun r j => if r = 0 then (if j = 28 then sI σ 47 k else if j = 51 then sI σ 45 (550 * k + 26) else 0) else sI σ 45 (550 * k + iof r + j)), sJ σ, sR σ)
/-- a byte as the reference has it -/
def bI (t : Nat) : Int32 := if t < 128 then nI t else nI t - 256
/-- what later calls can see of the class's memory -/
def IX (t : Nat) (ow : Nat → Nat) (W : Wd) (Wi : Nat → Option Wd) (RR : List (List Cls)) (T : Nat → Nat) (len : Nat) (σ : MS) : Prop :=
  (56 ≤ sN σ ∧ sN σ ≤ 56 + 105 * t) ∧
  (sI σ 1 1 = nI len ∧ ∀ i, i < len → sI σ 2 i = nI (T i)) ∧
  (sI σ 0 11 = nI RR.length ∧ ∀ r, r < RR.length → ∃ b, sR σ 21 r = some b ∧ 56 ≤ b ∧ RXc σ b (codesOf (RR.getD r [])) ∧ ow b = 10 + r ∧ ow (b + 1) = 10 + r) ∧
  XW ow 0 22 σ W ∧
  (∀ k, k < 4 → (Wi k = none → sR σ 43 k = none) ∧ ∀ V, Wi k = some V → ∃ b, sR σ 43 k = some b ∧ 56 ≤ b ∧ dRt σ b shWorld ∧ (∀ i, i < 21 → ow (b + i) = 50 + k) ∧ XW ow (1 + k) b σ V)
def IM (W : Wd) (Wi : Nat → Option Wd) (RR : List (List Cls)) (T : Nat → Nat) (len : Nat) (σ : MS) : Prop :=
  (sI σ 0 29 = nI len ∧ ∀ i, i < len → sI σ 28 i = bI (T i)) ∧
  (sI σ 0 33 = nI RR.length ∧ sI σ 0 38 = nI 12 ∧ ∀ r, r < RR.length → RMr σ r (RR.getD r [])) ∧
  MW σ W ∧
  (∀ k, k < 4 → (Wi k = none → sI σ 46 k = 0) ∧ ∀ V, Wi k = some V → sI σ 46 k = 1 ∧ MW (mImg σ k) V)
def OKW (W : Wd) (Wi : Nat → Option Wd) (RR : List (List Cls)) (T : Nat → Nat) (len : Nat) : Prop :=
  (len ≤ 400 ∧ ∀ i, i < len → T i < 256) ∧ (RR.length ≤ 6 ∧ ∀ r, r < RR.length → WR (RR.getD r [])) ∧ (WW W ∧ wc W 4 ≤ RR.length) ∧ (∀ k V, k < 4 → Wi k = some V → WW V ∧ wc V 4 ≤ RR.length)
def Inv (t : Nat) (σx σm : MS) : Prop := ∃ ow W Wi RR T len, IX t ow W Wi RR T len σx ∧ IM W Wi RR T len σm ∧ OKW W Wi RR T len
/-! what questions change -/
def ScX (σ σ' : MS) : Prop := sN σ' = sN σ ∧ sS σ' = sS σ ∧ (∀ b, b ≠ 44 → sR σ' b = sR σ b) ∧ (∀ b, (b = 1 ∨ b = 2 ∨ (21 ≤ b ∧ b ≤ 43) ∨ 56 ≤ b) → sI σ' b = sI σ b) ∧ sI σ' 0 11 = sI σ 0 11
theorem ScX.refl (σ : MS) : ScX σ σ := ⟨rfl, rfl, fun _ _ => rfl, fun _ _ => rfl, rfl⟩
theorem ScX.trans {σ σ' σ'' : MS} (h : ScX σ σ') (g : ScX σ' σ'') : ScX σ σ'' := ⟨g.1.trans h.1, g.2.1.trans h.2.1, fun b hb => (g.2.2.1 b hb).trans (h.2.2.1 b hb), fun b hb => (g.2.2.2.1 b hb).trans (h.2.2.2.1 b hb), g.2.2.2.2.trans h.2.2.2.2⟩
theorem FX.sc {σ σ' : MS} (h : FX 46 σ σ') : ScX σ σ' := ⟨h.1.1, h.1.2.1, fun b _ => by rw [h.1.2.2], fun b hb => h.2 b (by omega), by rw [h.2 0 (by omega)]⟩
def ScM (σ σ' : MS) : Prop := Sm σ σ' ∧ (∀ j, (j = 28 ∨ j = 29 ∨ j = 33 ∨ j = 38 ∨ j = 51) → sI σ' 0 j = sI σ 0 j) ∧ (∀ b, (b = 2 ∨ b = 3 ∨ (5 ≤ b ∧ b ≤ 8) ∨ (11 ≤ b ∧ b ≤ 17) ∨ (28 ≤ b ∧ b ≤ 34) ∨ b = 38 ∨ b = 46 ∨ b = 47) → sI σ' b = sI σ b) ∧ (∀ j, j < 10 → sI σ' 1 j = sI σ 1 j) ∧ (∀ j, j < 4 → sI σ' 4 j = sI σ 4 j) ∧ (∀ j, j < 6 → sI σ' 9 j = sI σ 9 j) ∧ (∀ j, j < 6 → sI σ' 10 j = sI σ 10 j) ∧ (∀ j, j < 2200 → sI σ' 45 j = sI σ 45 j)
theorem ScM.refl (σ : MS) : ScM σ σ := ⟨Sm.refl σ, fun _ _ => rfl, fun _ _ => rfl, fun _ _ => rfl, fun _ _ => rfl, fun _ _ => rfl, fun _ _ => rfl, fun _ _ => rfl⟩
theorem ScM.trans {σ σ' σ'' : MS} (h : ScM σ σ') (g : ScM σ' σ'') : ScM σ σ'' := by
  obtain ⟨a1, a2, a3, a4, a5, a6, a7, a8⟩ := h
  obtain ⟨b1, b2, b3, b4, b5, b6, b7, b8⟩ := g
  exact ⟨a1.trans b1, fun j hj => (b2 j hj).trans (a2 j hj), fun j hj => (b3 j hj).trans (a3 j hj), fun j hj => (b4 j hj).trans (a4 j hj), fun j hj => (b5 j hj).trans (a5 j hj), fun j hj => (b6 j hj).trans (a6 j hj), fun j hj => (b7 j hj).trans (a7 j hj), fun j hj => (b8 j hj).trans (a8 j hj)⟩
/-! frames of worlds -/
theorem dRt.fr {σ σ' : MS} {b : Nat} {sh : List (Nat × Nat)} (h : dRt σ b sh) (hN : sN σ ≤ sN σ') (hS : ∀ p, p < sN σ → sS σ' p = sS σ p) : dRt σ' b sh :=
  ⟨Nat.le_trans h.1 hN, fun i hi => by rw [hS _ (by have := h.1; omega)]; exact h.2 i hi⟩
theorem XW.fr {ow ow' : Nat → Nat} {v a : Nat} {σ σ' : MS} {W : Wd} (h : XW ow v a σ W) (hrow : ∀ b, a ≤ b → b ≤ a + 20 → sI σ' b = sI σ b) (hR : sR σ' (a + 17) = sR σ (a + 17)) (hN : sN σ ≤ sN σ') (hS : ∀ p, p < sN σ → sS σ' p = sS σ p) (hd : ∀ p, 56 ≤ p → p < sN σ → 100 + 20 * v ≤ ow p → ow p < 100 + 20 * v + 20 → sI σ' p = sI σ p) (how : ∀ p, p < sN σ → ow' p = ow p) : XW ow' v a σ' W := by
  obtain ⟨⟨h1, h2⟩, h3, h4, h5, h6, np, h7, h8, h9, h10⟩ := h
  refine ⟨⟨by rw [hrow (a + 1) (by omega) (by omega)]; exact h1, h2.fr (fun b g1 g2 => hrow b (by omega) (by omega))⟩, h3.fr (fun b g1 g2 => hrow b (by omega) (by omega)), h4.fr (fun b g1 g2 => hrow b (by omega) (by omega)), by rw [hrow a (by omega) (by omega)]; exact h5, ?_, np, h7, by rw [hrow a (by omega) (by omega)]; exact h8, ?_, ?_⟩
  · rw [hrow (a + 18) (by omega) (by omega), hrow (a + 19) (by omega) (by omega), hrow (a + 20) (by omega) (by omega)]; exact h6
  · intro s hs b hb
    rw [hR] at hb
    obtain ⟨g1, g2, g3⟩ := h9 s hs b hb
    refine ⟨g1, g2.fr hN hS, fun i hi => ?_⟩
    have : b + 4 ≤ sN σ := g2.1
    rw [how _ (by omega)]; exact g3 i hi
  · intro i hi
    obtain ⟨b, hb, hs⟩ := h10 i hi
    refine ⟨b, by rw [hR]; exact hb, hs.fr (fun p g1 g2 => ?_)⟩
    obtain ⟨k1, k2, k3⟩ := h9 _ (Nat.mod_lt _ (by decide)) b hb
    have : b + 4 ≤ sN σ := k2.1
    have ho := k3 (p - b) (by omega)
    rw [show b + (p - b) = p by omega] at ho
    have := Nat.mod_lt (np + 19 - i) (show 0 < 20 by decide)
    exact hd p (by omega) (by omega) (by omega) (by omega)
theorem IX.sc {t : Nat} {ow : Nat → Nat} {W : Wd} {Wi : Nat → Option Wd} {RR : List (List Cls)} {T : Nat → Nat} {len : Nat} {σ σ' : MS} (h : IX t ow W Wi RR T len σ) (g : ScX σ σ') : IX t ow W Wi RR T len σ' := by
  obtain ⟨⟨h1, h2⟩, ⟨h3, h4⟩, ⟨h5, h6⟩, h7, h8⟩ := h
  obtain ⟨g1, g2, g3, g4, g5⟩ := g
  have hN : sN σ ≤ sN σ' := by omega
  have hS : ∀ p, p < sN σ → sS σ' p = sS σ p := fun p _ => by rw [g2]
  refine ⟨⟨by omega, by omega⟩, ⟨by rw [g4 1 (by omega)]; exact h3, by rw [g4 2 (by omega)]; exact h4⟩, ⟨by rw [g5]; exact h5, fun r hr => ?_⟩, ?_, fun k hk => ⟨fun hw => ?_, fun V hV => ?_⟩⟩
  · obtain ⟨b, k1, k2, k3, k4, k5⟩ := h6 r hr
    obtain ⟨⟨q1, q2, q3⟩, q4, q5, q6⟩ := k3
    exact ⟨b, by rw [g3 21 (by decide)]; exact k1, k2, ⟨⟨by omega, by rw [g2]; exact q2, by rw [g2]; exact q3⟩, by rw [g2]; exact q4, q5, by rw [g4 (b + 1) (by omega)]; exact q6⟩, k4, k5⟩
  · exact h7.fr (fun b q1 q2 => g4 b (by omega)) (g3 _ (by decide)) hN hS (fun p q1 _ _ _ => g4 p (by omega)) (fun _ _ => rfl)
  · rw [g3 43 (by decide)]; exact (h8 k hk).1 hw
  · obtain ⟨b, k1, k2, k3, k4, k5⟩ := (h8 k hk).2 V hV
    exact ⟨b, by rw [g3 43 (by decide)]; exact k1, k2, k3.fr hN hS, k4, k5.fr (fun b q1 q2 => g4 b (by omega)) (g3 _ (by omega)) hN hS (fun p q1 _ _ _ => g4 p (by omega)) (fun _ _ => rfl)⟩
theorem LM.cg {σ σ' : MS} {K P N : Nat} {L : Row2} (h : LM σ K P N L) (hK : K ≤ 5) (hP : P ≤ 4) (hN : N ≤ 6) (h1 : ∀ j, j < 10 → sI σ' 1 j = sI σ 1 j) (h2 : ∀ b j, (b = 2 ∨ b = 3 ∨ (5 ≤ b ∧ b ≤ 8) ∨ b = 11) → j < 6 → sI σ' b j = sI σ b j) : LM σ' K P N L := by
  obtain ⟨⟨a1, a2, a3, a4⟩, a5, a6, a7⟩ := h
  refine ⟨⟨by rw [h1 2 (by decide)]; exact a1, by rw [h1 3 (by decide)]; exact a2, by rw [h1 4 (by decide)]; exact a3, by rw [h1 0 (by decide)]; exact a4⟩, fun k hk => ?_, fun p hp => ?_, fun w hw => ?_⟩
  · rw [h2 2 k (by omega) (by omega), h2 3 k (by omega) (by omega)]; exact a5 k hk
  · rw [h2 5 p (by omega) (by omega), h2 6 p (by omega) (by omega), h2 7 p (by omega) (by omega)]; exact a6 p hp
  · rw [h2 8 w (by omega) (by omega), h2 11 w (by omega) (by omega)]; exact a7 w hw
theorem SM.cg {σ σ' : MS} {P N : Nat} {S : Row2} (h : SM σ P N S) (hP : P ≤ 4) (hN : N ≤ 6) (h1 : ∀ j, j < 10 → sI σ' 1 j = sI σ 1 j) (h4 : ∀ j, j < 4 → sI σ' 4 j = sI σ 4 j) (h9 : ∀ j, j < 6 → sI σ' 9 j = sI σ 9 j) (h10 : ∀ j, j < 6 → sI σ' 10 j = sI σ 10 j) : SM σ' P N S := by
  obtain ⟨a1, a2, a3, a4, a5⟩ := h
  refine ⟨fun w hw => ?_, fun p hp => ?_, by rw [h1 6 (by decide)]; exact a3, by rw [h1 1 (by decide)]; exact a4, by rw [h1 5 (by decide)]; exact a5⟩
  · rw [h9 w (by omega), h10 w (by omega)]; exact a1 w hw
  · rw [h4 p (by omega)]; exact a2 p hp
theorem PM.cg {σ σ' : MS} {P N t : Nat} {S : Row2} (h : PM σ P N t S) (hP : P ≤ 4) (hN : N ≤ 6) (ht : t < 20) (hr : ∀ j, j < 380 → sI σ' 38 j = sI σ 38 j) : PM σ' P N t S := by
  obtain ⟨a1, a2, a3, a4, a5⟩ := h
  refine ⟨by rw [hr _ (by omega)]; exact a1, by rw [hr _ (by omega)]; exact a2, by rw [hr _ (by omega)]; exact a3, fun p hp => by rw [hr _ (by omega)]; exact a4 p hp, fun w hw => by rw [hr _ (by omega), hr _ (by omega)]; exact a5 w hw⟩
/-- worlds of the reference: rows up to their lengths -/
theorem MW.cg {σ σ' : MS} {W : Wd} (h : MW σ W) (hW : WW W) (h28 : sI σ' 0 28 = sI σ 0 28) (h51 : sI σ' 0 51 = sI σ 0 51) (h1 : ∀ j, j < 10 → sI σ' 1 j = sI σ 1 j) (h4 : ∀ j, j < 4 → sI σ' 4 j = sI σ 4 j) (h6 : ∀ b j, (b = 2 ∨ b = 3 ∨ (5 ≤ b ∧ b ≤ 11) ∨ b = 16) → j < 6 → sI σ' b j = sI σ b j) (h12 : ∀ b j, (12 ≤ b ∧ b ≤ 14) → j < 10 → sI σ' b j = sI σ b j) (h15 : ∀ j, j < 4 → sI σ' 15 j = sI σ 15 j) (h17 : sI σ' 17 0 = sI σ 17 0) (h38 : ∀ j, j < 380 → sI σ' 38 j = sI σ 38 j) : MW σ' W := by
  obtain ⟨⟨a1, a2⟩, a3, ⟨a4, a5, a6⟩, ⟨a7, a8, a9, a10⟩, a11, a12⟩ := h
  obtain ⟨⟨w1, w2, w3, w4, w5⟩, ⟨⟨⟨w6, w7, w8, _⟩, _⟩, _⟩, _⟩ := hW
  refine ⟨⟨by rw [h28]; exact a1, a2.cg w6 w7 w8 h1 (fun b j hb hj => h6 b j (by omega) hj)⟩, a3.cg w7 w8 h1 h4 (fun j hj => h6 9 j (by omega) hj) (fun j hj => h6 10 j (by omega) hj), ⟨fun p hp => by rw [h15 p (by omega)]; exact a4 p hp, fun w hw => by rw [h6 16 w (by omega) (by omega)]; exact a5 w hw, by rw [h17]; exact a6⟩, ⟨by rw [h1 9 (by decide)]; exact a7, by rw [h1 8 (by decide)]; exact a8, by rw [h1 7 (by decide)]; exact a9, by rw [h51]; exact a10⟩, fun i hi => ?_, fun i hi => (a12 i hi).cg w7 w8 (by omega) h38⟩
  rw [h12 12 i (by decide) (by omega), h12 13 i (by decide) (by omega), h12 14 i (by decide) (by omega)]; exact a11 i hi
theorem mImg_0 (σ : MS) (k j : Nat) : sI (mImg σ k) 0 j = if j = 28 then sI σ 47 k else if j = 51 then sI σ 45 (550 * k + 26) else 0 := rfl
theorem mImg_r (σ : MS) (k : Nat) {r : Nat} (hr : r ≠ 0) (j : Nat) : sI (mImg σ k) r j = sI σ 45 (550 * k + iof r + j) := by
  show (if r = 0 then _ else _) = _
  rw [if_neg hr]
theorem MW.img {σ σ' : MS} {W : Wd} {k : Nat} (h : MW (mImg σ k) W) (hW : WW W) (h47 : sI σ' 47 k = sI σ 47 k) (h45 : ∀ j, 550 * k ≤ j → j < 550 * k + 550 → sI σ' 45 j = sI σ 45 j) : MW (mImg σ' k) W := by
  have hi : ∀ r, iof r ≤ 102 := fun r => by
    unfold iof
    rcases Nat.lt_or_ge r 18 with h | h
    · rcases (by omega : r = 0 ∨ r = 1 ∨ r = 2 ∨ r = 3 ∨ r = 4 ∨ r = 5 ∨ r = 6 ∨ r = 7 ∨ r = 8 ∨ r = 9 ∨ r = 10 ∨ r = 11 ∨ r = 12 ∨ r = 13 ∨ r = 14 ∨ r = 15 ∨ r = 16 ∨ r = 17) with h | h | h | h | h | h | h | h | h | h | h | h | h | h | h | h | h | h <;> subst h <;> decide
    · simp [List.getD, List.getElem?_eq_none (show [0, 0, 27, 32, 10, 37, 41, 45, 49, 14, 20, 55, 61, 71, 81, 91, 95, 101].length ≤ r from h)]
  have e : ∀ r j, r ≠ 0 → j < 400 → sI (mImg σ' k) r j = sI (mImg σ k) r j := fun r j hr hj => by
    rw [mImg_r _ _ hr, mImg_r _ _ hr, h45 _ (by omega) (by have := hi r; omega)]
  refine h.cg hW ?_ ?_ (fun j hj => e 1 j (by decide) (by omega)) (fun j hj => e 4 j (by decide) (by omega)) (fun b j hb hj => e b j (by omega) (by omega)) (fun b j hb hj => e b j (by omega) (by omega)) (fun j hj => e 15 j (by decide) (by omega)) (e 17 0 (by decide) (by decide)) (fun j hj => e 38 j (by decide) (by omega))
  · rw [mImg_0, mImg_0, if_pos rfl, if_pos rfl, h47]
  · show sI σ' 45 (550 * k + 26) = sI σ 45 (550 * k + 26)
    exact h45 _ (by omega) (by omega)
theorem IM.sc {W : Wd} {Wi : Nat → Option Wd} {RR : List (List Cls)} {T : Nat → Nat} {len : Nat} {σ σ' : MS} (h : IM W Wi RR T len σ) (hO : OKW W Wi RR T len) (g : ScM σ σ') : IM W Wi RR T len σ' := by
  obtain ⟨⟨h1, h2⟩, ⟨h3, h4, h5⟩, h6, h7⟩ := h
  obtain ⟨g1, g2, g3, g4, g5, g6, g7, g8⟩ := g
  obtain ⟨_, _, ⟨hW, _⟩, hWi⟩ := hO
  refine ⟨⟨by rw [g2 29 (by omega)]; exact h1, by rw [g3 28 (by omega)]; exact h2⟩, ⟨by rw [g2 33 (by omega)]; exact h3, by rw [g2 38 (by omega)]; exact h4, fun r hr => (h5 r hr).fr (fun b q1 q2 => g3 b (by omega))⟩, ?_, fun k hk => ⟨fun hw => by rw [g3 46 (by omega)]; exact (h7 k hk).1 hw, fun V hV => ?_⟩⟩
  · refine h6.cg hW (g2 28 (by omega)) (g2 51 (by omega)) g4 g5 (fun b j hb hj => ?_) (fun b j hb hj => by rw [g3 b (by omega)]) (fun j hj => by rw [g3 15 (by omega)]) (by rw [g3 17 (by omega)]) (fun j hj => by rw [g3 38 (by omega)])
    rcases (by omega : b = 9 ∨ b = 10 ∨ (b = 2 ∨ b = 3 ∨ (5 ≤ b ∧ b ≤ 8) ∨ (11 ≤ b ∧ b ≤ 17))) with e | e | e
    · subst e; exact g6 j hj
    · subst e; exact g7 j hj
    · rw [g3 b (by omega)]
  · obtain ⟨k1, k2⟩ := (h7 k hk).2 V hV
    exact ⟨by rw [g3 46 (by omega)]; exact k1, k2.img (hWi k V hk hV).1 (by rw [g3 47 (by omega)]) (fun j q1 q2 => g8 j (by omega))⟩
theorem Inv.sc {t : Nat} {σx σm σx' σm' : MS} (h : Inv t σx σm) (gx : ScX σx σx') (gm : ScM σm σm') : Inv t σx' σm' := by
  obtain ⟨ow, W, Wi, RR, T, len, h1, h2, h3⟩ := h
  exact ⟨ow, W, Wi, RR, T, len, h1.sc gx, h2.sc h3 gm, h3⟩
theorem Inv.up {t t' : Nat} {σx σm : MS} (h : Inv t σx σm) (ht : t ≤ t') : Inv t' σx σm := by
  obtain ⟨ow, W, Wi, RR, T, len, h1, h2, h3⟩ := h
  exact ⟨ow, W, Wi, RR, T, len, ⟨⟨h1.1.1, by have := h1.1.2; omega⟩, h1.2⟩, h2, h3⟩
end
