/-! ===== pure: memory, what stands for what ===== -/
section
def jw (σ : MS) (J : Nat → Nat → Int64) : MS := (σ.1, σ.2.1, σ.2.2.1, J, σ.2.2.2.2)
theorem sI_jw (σ : MS) (J : Nat → Nat → Int64) : sI (jw σ J) = sI σ := rfl
theorem sS_jw (σ : MS) (J : Nat → Nat → Int64) : sS (jw σ J) = sS σ := rfl
theorem sN_jw (σ : MS) (J : Nat → Nat → Int64) : sN (jw σ J) = sN σ := rfl
theorem sR_jw (σ : MS) (J : Nat → Nat → Int64) : sR (jw σ J) = sR σ := rfl
theorem jw_jw (σ : MS) (J J' : Nat → Nat → Int64) : jw (jw σ J) J' = jw σ J' := rfl
theorem jw_self (σ : MS) : jw σ (sJ σ) = σ := rfl
theorem wJ_jw (σ : MS) (a k : Nat) (v : Int64) : wJ σ a k v = jw σ (up2 (sJ σ) a k v) := rfl
theorem sI_wI (σ : MS) (a k : Nat) (v : Int32) (b j : Nat) : sI (wI σ a k v) b j = if b = a then (if j = k then v else sI σ b j) else sI σ b j := rfl
theorem sI_wIs (σ : MS) (a k : Nat) (v : Int32) : sI (wI σ a k v) a k = v := up2_s _ _ _ _
theorem sI_wIk (σ : MS) (a k : Nat) (v : Int32) {j : Nat} (h : j ≠ k) : sI (wI σ a k v) a j = sI σ a j := up2_k _ _ _ h
theorem sI_wIn (σ : MS) (a k : Nat) (v : Int32) {b : Nat} (h : b ≠ a) : sI (wI σ a k v) b = sI σ b := up2_rowN _ _ _ h
theorem sJ_wI (σ : MS) (a k : Nat) (v : Int32) : sJ (wI σ a k v) = sJ σ := rfl
theorem sS_wI (σ : MS) (a k : Nat) (v : Int32) : sS (wI σ a k v) = sS σ := rfl
theorem sN_wI (σ : MS) (a k : Nat) (v : Int32) : sN (wI σ a k v) = sN σ := rfl
theorem sR_wI (σ : MS) (a k : Nat) (v : Int32) : sR (wI σ a k v) = sR σ := rfl
theorem sI_wR (σ : MS) (a k : Nat) (v : Option Nat) : sI (wR σ a k v) = sI σ := rfl
theorem sS_wR (σ : MS) (a k : Nat) (v : Option Nat) : sS (wR σ a k v) = sS σ := rfl
theorem sN_wR (σ : MS) (a k : Nat) (v : Option Nat) : sN (wR σ a k v) = sN σ := rfl
theorem sI_wJ (σ : MS) (a k : Nat) (v : Int64) : sI (wJ σ a k v) = sI σ := rfl
theorem sS_wJ (σ : MS) (a k : Nat) (v : Int64) : sS (wJ σ a k v) = sS σ := rfl
theorem sN_wJ (σ : MS) (a k : Nat) (v : Int64) : sN (wJ σ a k v) = sN σ := rfl
theorem sR_wJ (σ : MS) (a k : Nat) (v : Int64) : sR (wJ σ a k v) = sR σ := rfl
theorem sJ_wJ (σ : MS) (a k : Nat) (v : Int64) : sJ (wJ σ a k v) = up2 (sJ σ) a k v := rfl
theorem sI_wWs (σ : MS) (a : Nat) (f : Nat → Int32) : sI (wW σ a f) a = f := up1_s _ _ _
theorem sI_wWn (σ : MS) (a : Nat) (f : Nat → Int32) {b : Nat} (h : b ≠ a) : sI (wW σ a f) b = sI σ b := up1_n _ _ h
theorem sS_wW (σ : MS) (a : Nat) (f : Nat → Int32) : sS (wW σ a f) = sS σ := rfl
theorem sN_wW (σ : MS) (a : Nat) (f : Nat → Int32) : sN (wW σ a f) = sN σ := rfl
theorem sR_wW (σ : MS) (a : Nat) (f : Nat → Int32) : sR (wW σ a f) = sR σ := rfl
/-- shapes, size and references alike -/
def Sm (σ σ' : MS) : Prop := sN σ' = sN σ ∧ sS σ' = sS σ ∧ sR σ' = sR σ
theorem Sm.refl (σ : MS) : Sm σ σ := ⟨rfl, rfl, rfl⟩
theorem Sm.trans {σ σ' σ'' : MS} (h : Sm σ σ') (g : Sm σ' σ'') : Sm σ σ'' := ⟨g.1.trans h.1, g.2.1.trans h.2.1, g.2.2.trans h.2.2⟩
abbrev Row2 : Type := Nat → Nat → Nat
/-- a land at a place: rows 0 price, 1 worth, 2 first, 3 span, 4 hands, 5 kind, 6 after, 7 the fine -/
def LX (a : Nat) (σ : MS) (K P N : Nat) (L : Row2) : Prop :=
  (sI σ a 2 = nI K ∧ sI σ a 3 = nI P ∧ sI σ a 4 = nI N ∧ sI σ a 1 = nI (L 7 0)) ∧
  (∀ k, k < K → sI σ (a + 1) k = nI (L 0 k) ∧ sI σ (a + 2) k = nI (L 1 k)) ∧
  (∀ p, p < P → sI σ (a + 3) p = nI (L 2 p) ∧ sI σ (a + 4) p = nI (L 3 p) ∧ sI σ (a + 5) p = nI (L 4 p)) ∧
  (∀ w, w < N → sI σ (a + 6) w = nI (L 5 w) ∧ sI σ (a + 7) w = nI (L 6 w))
def LM (σ : MS) (K P N : Nat) (L : Row2) : Prop :=
  (sI σ 1 2 = nI K ∧ sI σ 1 3 = nI P ∧ sI σ 1 4 = nI N ∧ sI σ 1 0 = nI (L 7 0)) ∧
  (∀ k, k < K → sI σ 2 k = nI (L 0 k) ∧ sI σ 3 k = nI (L 1 k)) ∧
  (∀ p, p < P → sI σ 5 p = nI (L 2 p) ∧ sI σ 6 p = nI (L 3 p) ∧ sI σ 7 p = nI (L 4 p)) ∧
  (∀ w, w < N → sI σ 8 w = nI (L 5 w) ∧ sI σ 11 w = nI (L 6 w))
/-- a state at a place: rows 0 holders, 1 stopped, 2 purses, 3: 3 sneaked, 4 chest, 5 hour -/
def SX (a : Nat) (σ : MS) (S : Row2) : Prop :=
  (∀ w, w < 6 → sI σ (a + 1) w = hI (S 0 w) ∧ sI σ (a + 2) w = nI (S 1 w)) ∧
  (∀ p, p < 4 → sI σ (a + 3) p = nI (S 2 p)) ∧
  (sI σ a 3 = nI (S 3 3) ∧ sI σ a 4 = nI (S 3 4) ∧ sI σ a 5 = nI (S 3 5))
def SM (σ : MS) (P N : Nat) (S : Row2) : Prop :=
  (∀ w, w < N → sI σ 9 w = hI (S 0 w) ∧ sI σ 10 w = nI (S 1 w)) ∧
  (∀ p, p < P → sI σ 4 p = nI (S 2 p)) ∧
  (sI σ 1 6 = nI (S 3 3) ∧ sI σ 1 1 = nI (S 3 4) ∧ sI σ 1 5 = nI (S 3 5))
/-- what holds of a land -/
def WL (K P N : Nat) (L : Row2) : Prop :=
  (K ≤ 5 ∧ P ≤ 4 ∧ N ≤ 6 ∧ L 7 0 ≤ 99) ∧
  (∀ k, k < K → L 0 k ≤ 99 ∧ L 1 k ≤ 9) ∧
  (∀ p, p < P → L 2 p ≤ 23 ∧ L 3 p ≤ 24 ∧ L 4 p ≤ 4) ∧
  (∀ w, w < N → L 5 w < K ∧ L 6 w < 2 ^ N)
/-- what holds of a state -/
def WS (P N : Nat) (S : Row2) : Prop :=
  (∀ w, w < 6 → S 0 w ≤ P ∧ (N ≤ w → S 0 w = 0)) ∧
  (∀ p, p < 4 → S 2 p ≤ 9999 ∧ (P ≤ p → S 2 p = 0)) ∧
  (S 3 3 < 64 ∧ (∀ w, w < 6 → S 0 w = 0 → bt (S 3 3) w = 0)) ∧
  (S 3 4 ≤ 99999 ∧ S 3 5 ≤ 3000)
theorem LX.fr {a : Nat} {σ σ' : MS} {K P N : Nat} {L : Row2} (h : LX a σ K P N L) (hf : ∀ b, a ≤ b → b ≤ a + 7 → sI σ' b = sI σ b) : LX a σ' K P N L := by
  unfold LX
  rw [hf a (by omega) (by omega), hf (a + 1) (by omega) (by omega), hf (a + 2) (by omega) (by omega), hf (a + 3) (by omega) (by omega), hf (a + 4) (by omega) (by omega), hf (a + 5) (by omega) (by omega), hf (a + 6) (by omega) (by omega), hf (a + 7) (by omega) (by omega)]
  exact h
theorem SX.fr {a : Nat} {σ σ' : MS} {S : Row2} (h : SX a σ S) (hf : ∀ b, a ≤ b → b ≤ a + 3 → sI σ' b = sI σ b) : SX a σ' S := by
  unfold SX
  rw [hf a (by omega) (by omega), hf (a + 1) (by omega) (by omega), hf (a + 2) (by omega) (by omega), hf (a + 3) (by omega) (by omega)]
  exact h
/-! a state, one number changed -/
theorem SX.hold {a : Nat} {σ : MS} {S : Row2} (h : SX a σ S) (w v : Nat) {x : Int32} (hx : x = hI v) : SX a (wI σ (a + 1) w x) (up2 S 0 w v) := by
  obtain ⟨h1, h2, h3⟩ := h
  subst hx
  refine ⟨fun i hi => ⟨?_, ?_⟩, fun i hi => ?_, ?_, ?_, ?_⟩
  · by_cases e : i = w
    · subst e; rw [sI_wIs, up2_s]
    · rw [sI_wIk _ _ _ _ e, up2_k _ _ _ e]; exact (h1 i hi).1
  · rw [sI_wIn _ _ _ _ (by omega), up2_n _ _ _ _ (by decide)]; exact (h1 i hi).2
  · rw [sI_wIn _ _ _ _ (by omega), up2_n _ _ _ _ (by decide)]; exact h2 i hi
  · rw [sI_wIn _ _ _ _ (by omega), up2_n _ _ _ _ (by decide)]; exact h3.1
  · rw [sI_wIn _ _ _ _ (by omega), up2_n _ _ _ _ (by decide)]; exact h3.2.1
  · rw [sI_wIn _ _ _ _ (by omega), up2_n _ _ _ _ (by decide)]; exact h3.2.2
theorem SX.stop {a : Nat} {σ : MS} {S : Row2} (h : SX a σ S) (w v : Nat) {x : Int32} (hx : x = nI v) : SX a (wI σ (a + 2) w x) (up2 S 1 w v) := by
  obtain ⟨h1, h2, h3⟩ := h
  subst hx
  refine ⟨fun i hi => ⟨?_, ?_⟩, fun i hi => ?_, ?_, ?_, ?_⟩
  · rw [sI_wIn _ _ _ _ (by omega), up2_n _ _ _ _ (by decide)]; exact (h1 i hi).1
  · by_cases e : i = w
    · subst e; rw [sI_wIs, up2_s]
    · rw [sI_wIk _ _ _ _ e, up2_k _ _ _ e]; exact (h1 i hi).2
  · rw [sI_wIn _ _ _ _ (by omega), up2_n _ _ _ _ (by decide)]; exact h2 i hi
  · rw [sI_wIn _ _ _ _ (by omega), up2_n _ _ _ _ (by decide)]; exact h3.1
  · rw [sI_wIn _ _ _ _ (by omega), up2_n _ _ _ _ (by decide)]; exact h3.2.1
  · rw [sI_wIn _ _ _ _ (by omega), up2_n _ _ _ _ (by decide)]; exact h3.2.2
theorem SX.purs {a : Nat} {σ : MS} {S : Row2} (h : SX a σ S) (w v : Nat) {x : Int32} (hx : x = nI v) : SX a (wI σ (a + 3) w x) (up2 S 2 w v) := by
  obtain ⟨h1, h2, h3⟩ := h
  subst hx
  refine ⟨fun i hi => ⟨?_, ?_⟩, fun i hi => ?_, ?_, ?_, ?_⟩
  · rw [sI_wIn _ _ _ _ (by omega), up2_n _ _ _ _ (by decide)]; exact (h1 i hi).1
  · rw [sI_wIn _ _ _ _ (by omega), up2_n _ _ _ _ (by decide)]; exact (h1 i hi).2
  · by_cases e : i = w
    · subst e; rw [sI_wIs, up2_s]
    · rw [sI_wIk _ _ _ _ e, up2_k _ _ _ e]; exact h2 i hi
  · rw [sI_wIn _ _ _ _ (by omega), up2_n _ _ _ _ (by decide)]; exact h3.1
  · rw [sI_wIn _ _ _ _ (by omega), up2_n _ _ _ _ (by decide)]; exact h3.2.1
  · rw [sI_wIn _ _ _ _ (by omega), up2_n _ _ _ _ (by decide)]; exact h3.2.2
theorem SX.fld {a : Nat} {σ : MS} {S : Row2} (h : SX a σ S) (k v : Nat) {x : Int32} (hx : x = nI v) : SX a (wI σ a k x) (up2 S 3 k v) := by
  obtain ⟨h1, h2, h3⟩ := h
  subst hx
  refine ⟨fun i hi => ⟨?_, ?_⟩, fun i hi => ?_, ?_, ?_, ?_⟩
  · rw [sI_wIn _ _ _ _ (by omega), up2_n _ _ _ _ (by decide)]; exact (h1 i hi).1
  · rw [sI_wIn _ _ _ _ (by omega), up2_n _ _ _ _ (by decide)]; exact (h1 i hi).2
  · rw [sI_wIn _ _ _ _ (by omega), up2_n _ _ _ _ (by decide)]; exact h2 i hi
  · by_cases e : 3 = k
    · subst e; rw [sI_wIs, up2_s]
    · rw [sI_wIk _ _ _ _ e, up2_k _ _ _ e]; exact h3.1
  · by_cases e : 4 = k
    · subst e; rw [sI_wIs, up2_s]
    · rw [sI_wIk _ _ _ _ e, up2_k _ _ _ e]; exact h3.2.1
  · by_cases e : 5 = k
    · subst e; rw [sI_wIs, up2_s]
    · rw [sI_wIk _ _ _ _ e, up2_k _ _ _ e]; exact h3.2.2
theorem SM.hold {σ : MS} {P N : Nat} {S : Row2} (h : SM σ P N S) (w v : Nat) {x : Int32} (hx : x = hI v) : SM (wI σ 9 w x) P N (up2 S 0 w v) := by
  obtain ⟨h1, h2, h3⟩ := h
  subst hx
  refine ⟨fun i hi => ⟨?_, ?_⟩, fun i hi => ?_, ?_, ?_, ?_⟩
  · by_cases e : i = w
    · subst e; rw [sI_wIs, up2_s]
    · rw [sI_wIk _ _ _ _ e, up2_k _ _ _ e]; exact (h1 i hi).1
  · rw [sI_wIn _ _ _ _ (by decide), up2_n _ _ _ _ (by decide)]; exact (h1 i hi).2
  · rw [sI_wIn _ _ _ _ (by decide), up2_n _ _ _ _ (by decide)]; exact h2 i hi
  · rw [sI_wIn _ _ _ _ (by decide), up2_n _ _ _ _ (by decide)]; exact h3.1
  · rw [sI_wIn _ _ _ _ (by decide), up2_n _ _ _ _ (by decide)]; exact h3.2.1
  · rw [sI_wIn _ _ _ _ (by decide), up2_n _ _ _ _ (by decide)]; exact h3.2.2
theorem SM.stop {σ : MS} {P N : Nat} {S : Row2} (h : SM σ P N S) (w v : Nat) {x : Int32} (hx : x = nI v) : SM (wI σ 10 w x) P N (up2 S 1 w v) := by
  obtain ⟨h1, h2, h3⟩ := h
  subst hx
  refine ⟨fun i hi => ⟨?_, ?_⟩, fun i hi => ?_, ?_, ?_, ?_⟩
  · rw [sI_wIn _ _ _ _ (by decide), up2_n _ _ _ _ (by decide)]; exact (h1 i hi).1
  · by_cases e : i = w
    · subst e; rw [sI_wIs, up2_s]
    · rw [sI_wIk _ _ _ _ e, up2_k _ _ _ e]; exact (h1 i hi).2
  · rw [sI_wIn _ _ _ _ (by decide), up2_n _ _ _ _ (by decide)]; exact h2 i hi
  · rw [sI_wIn _ _ _ _ (by decide), up2_n _ _ _ _ (by decide)]; exact h3.1
  · rw [sI_wIn _ _ _ _ (by decide), up2_n _ _ _ _ (by decide)]; exact h3.2.1
  · rw [sI_wIn _ _ _ _ (by decide), up2_n _ _ _ _ (by decide)]; exact h3.2.2
theorem SM.purs {σ : MS} {P N : Nat} {S : Row2} (h : SM σ P N S) (w v : Nat) {x : Int32} (hx : x = nI v) : SM (wI σ 4 w x) P N (up2 S 2 w v) := by
  obtain ⟨h1, h2, h3⟩ := h
  subst hx
  refine ⟨fun i hi => ⟨?_, ?_⟩, fun i hi => ?_, ?_, ?_, ?_⟩
  · rw [sI_wIn _ _ _ _ (by decide), up2_n _ _ _ _ (by decide)]; exact (h1 i hi).1
  · rw [sI_wIn _ _ _ _ (by decide), up2_n _ _ _ _ (by decide)]; exact (h1 i hi).2
  · by_cases e : i = w
    · subst e; rw [sI_wIs, up2_s]
    · rw [sI_wIk _ _ _ _ e, up2_k _ _ _ e]; exact h2 i hi
  · rw [sI_wIn _ _ _ _ (by decide), up2_n _ _ _ _ (by decide)]; exact h3.1
  · rw [sI_wIn _ _ _ _ (by decide), up2_n _ _ _ _ (by decide)]; exact h3.2.1
  · rw [sI_wIn _ _ _ _ (by decide), up2_n _ _ _ _ (by decide)]; exact h3.2.2
theorem SM.snk {σ : MS} {P N : Nat} {S : Row2} (h : SM σ P N S) (v : Nat) {x : Int32} (hx : x = nI v) : SM (wI σ 1 6 x) P N (up2 S 3 3 v) := by
  obtain ⟨h1, h2, h3⟩ := h
  subst hx
  refine ⟨fun i hi => ⟨?_, ?_⟩, fun i hi => ?_, ?_, ?_, ?_⟩
  · rw [sI_wIn _ _ _ _ (by decide), up2_n _ _ _ _ (by decide)]; exact (h1 i hi).1
  · rw [sI_wIn _ _ _ _ (by decide), up2_n _ _ _ _ (by decide)]; exact (h1 i hi).2
  · rw [sI_wIn _ _ _ _ (by decide), up2_n _ _ _ _ (by decide)]; exact h2 i hi
  · rw [sI_wIs, up2_s]
  · rw [sI_wIk _ _ _ _ (by decide), up2_k _ _ _ (by decide)]; exact h3.2.1
  · rw [sI_wIk _ _ _ _ (by decide), up2_k _ _ _ (by decide)]; exact h3.2.2
theorem SM.chst {σ : MS} {P N : Nat} {S : Row2} (h : SM σ P N S) (v : Nat) {x : Int32} (hx : x = nI v) : SM (wI σ 1 1 x) P N (up2 S 3 4 v) := by
  obtain ⟨h1, h2, h3⟩ := h
  subst hx
  refine ⟨fun i hi => ⟨?_, ?_⟩, fun i hi => ?_, ?_, ?_, ?_⟩
  · rw [sI_wIn _ _ _ _ (by decide), up2_n _ _ _ _ (by decide)]; exact (h1 i hi).1
  · rw [sI_wIn _ _ _ _ (by decide), up2_n _ _ _ _ (by decide)]; exact (h1 i hi).2
  · rw [sI_wIn _ _ _ _ (by decide), up2_n _ _ _ _ (by decide)]; exact h2 i hi
  · rw [sI_wIk _ _ _ _ (by decide), up2_k _ _ _ (by decide)]; exact h3.1
  · rw [sI_wIs, up2_s]
  · rw [sI_wIk _ _ _ _ (by decide), up2_k _ _ _ (by decide)]; exact h3.2.2
theorem SM.hr {σ : MS} {P N : Nat} {S : Row2} (h : SM σ P N S) (v : Nat) {x : Int32} (hx : x = nI v) : SM (wI σ 1 5 x) P N (up2 S 3 5 v) := by
  obtain ⟨h1, h2, h3⟩ := h
  subst hx
  refine ⟨fun i hi => ⟨?_, ?_⟩, fun i hi => ?_, ?_, ?_, ?_⟩
  · rw [sI_wIn _ _ _ _ (by decide), up2_n _ _ _ _ (by decide)]; exact (h1 i hi).1
  · rw [sI_wIn _ _ _ _ (by decide), up2_n _ _ _ _ (by decide)]; exact (h1 i hi).2
  · rw [sI_wIn _ _ _ _ (by decide), up2_n _ _ _ _ (by decide)]; exact h2 i hi
  · rw [sI_wIk _ _ _ _ (by decide), up2_k _ _ _ (by decide)]; exact h3.1
  · rw [sI_wIk _ _ _ _ (by decide), up2_k _ _ _ (by decide)]; exact h3.2.1
  · rw [sI_wIs, up2_s]
/-- what a step of the reference's state may change -/
def FM (σ σ' : MS) : Prop := Sm σ σ' ∧ (∀ b, b ≠ 1 → b ≠ 4 → b ≠ 9 → b ≠ 10 → sI σ' b = sI σ b) ∧ (∀ j, j ≠ 1 → j ≠ 5 → j ≠ 6 → sI σ' 1 j = sI σ 1 j)
theorem FM.refl (σ : MS) : FM σ σ := ⟨Sm.refl σ, fun _ _ _ _ _ => rfl, fun _ _ _ _ => rfl⟩
theorem FM.trans {σ σ' σ'' : MS} (h : FM σ σ') (g : FM σ' σ'') : FM σ σ'' :=
  ⟨h.1.trans g.1, fun b h1 h2 h3 h4 => (g.2.1 b h1 h2 h3 h4).trans (h.2.1 b h1 h2 h3 h4), fun j h1 h2 h3 => (g.2.2 j h1 h2 h3).trans (h.2.2 j h1 h2 h3)⟩
theorem FM.jw (σ : MS) (J : Nat → Nat → Int64) : FM σ (jw σ J) := ⟨⟨rfl, rfl, rfl⟩, fun _ _ _ _ _ => rfl, fun _ _ _ _ => rfl⟩
theorem FM.row (σ : MS) {a : Nat} (k : Nat) (v : Int32) (ha : a = 4 ∨ a = 9 ∨ a = 10) : FM σ (wI σ a k v) :=
  ⟨⟨rfl, rfl, rfl⟩, fun b h1 h2 h3 h4 => sI_wIn _ _ _ _ (by omega), fun j _ _ _ => by rw [sI_wIn _ _ _ _ (by omega)]⟩
theorem FM.fld (σ : MS) {k : Nat} (v : Int32) (hk : k = 1 ∨ k = 5 ∨ k = 6) : FM σ (wI σ 1 k v) :=
  ⟨⟨rfl, rfl, rfl⟩, fun b h1 h2 h3 h4 => sI_wIn _ _ _ _ h1, fun j _ _ _ => sI_wIk _ _ _ _ (by omega)⟩
theorem LM.fr {σ σ' : MS} {K P N : Nat} {L : Row2} (h : LM σ K P N L) (hf : FM σ σ') : LM σ' K P N L := by
  unfold LM
  rw [hf.2.1 2 (by decide) (by decide) (by decide) (by decide), hf.2.1 3 (by decide) (by decide) (by decide) (by decide), hf.2.1 5 (by decide) (by decide) (by decide) (by decide), hf.2.1 6 (by decide) (by decide) (by decide) (by decide), hf.2.1 7 (by decide) (by decide) (by decide) (by decide), hf.2.1 8 (by decide) (by decide) (by decide) (by decide), hf.2.1 11 (by decide) (by decide) (by decide) (by decide), hf.2.2 2 (by decide) (by decide) (by decide), hf.2.2 3 (by decide) (by decide) (by decide), hf.2.2 4 (by decide) (by decide) (by decide), hf.2.2 0 (by decide) (by decide) (by decide)]
  exact h
/-- what a step of the class's state at a place may change -/
def FX (a : Nat) (σ σ' : MS) : Prop := Sm σ σ' ∧ ∀ b, b < a ∨ a + 3 < b → sI σ' b = sI σ b
theorem FX.refl (a : Nat) (σ : MS) : FX a σ σ := ⟨Sm.refl σ, fun _ _ => rfl⟩
theorem FX.trans {a : Nat} {σ σ' σ'' : MS} (h : FX a σ σ') (g : FX a σ' σ'') : FX a σ σ'' := ⟨h.1.trans g.1, fun b hb => (g.2 b hb).trans (h.2 b hb)⟩
theorem FX.jw (a : Nat) (σ : MS) (J : Nat → Nat → Int64) : FX a σ (jw σ J) := ⟨⟨rfl, rfl, rfl⟩, fun _ _ => rfl⟩
theorem FX.w (a : Nat) (σ : MS) (i : Nat) (hi : i ≤ 3) (k : Nat) (v : Int32) : FX a σ (wI σ (a + i) k v) := ⟨⟨rfl, rfl, rfl⟩, fun b hb => sI_wIn _ _ _ _ (by omega)⟩
theorem FX.w0 (a : Nat) (σ : MS) (k : Nat) (v : Int32) : FX a σ (wI σ a k v) := FX.w a σ 0 (by omega) k v
end
