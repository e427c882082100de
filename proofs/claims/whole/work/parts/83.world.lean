/-! ===== pure: a world is copied ===== -/
section
theorem i5 : ix (5 : Int32) = 5 := by decide
theorem i10 : ix (10 : Int32) = 10 := by decide
theorem cp1 (σ : MS) (d s n : Nat) : Sm σ (wW σ d (va_cpy (sI σ s) (sI σ d) 0 0 n)) ∧ (∀ b, b ≠ d → sI (wW σ d (va_cpy (sI σ s) (sI σ d) 0 0 n)) b = sI σ b) ∧ (∀ j, j < n → sI (wW σ d (va_cpy (sI σ s) (sI σ d) 0 0 n)) d j = sI σ s j) :=
  ⟨⟨rfl, rfl, rfl⟩, fun b hb => sI_wWn _ _ _ hb, fun j hj => by rw [sI_wWs, cpy_in hj]⟩
theorem cp2 (σ : MS) (d s n d' s' n' : Nat) (h1 : d ≠ d') (h2 : s' ≠ d) : ∃ σ', σ' = wW (wW σ d (va_cpy (sI σ s) (sI σ d) 0 0 n)) d' (va_cpy (sI (wW σ d (va_cpy (sI σ s) (sI σ d) 0 0 n)) s') (sI (wW σ d (va_cpy (sI σ s) (sI σ d) 0 0 n)) d') 0 0 n') ∧ Sm σ σ' ∧ (∀ b, b ≠ d → b ≠ d' → sI σ' b = sI σ b) ∧ (∀ j, j < n → sI σ' d j = sI σ s j) ∧ (∀ j, j < n' → sI σ' d' j = sI σ s' j) := by
  obtain ⟨a1, a2, a3⟩ := cp1 σ d s n
  obtain ⟨b1, b2, b3⟩ := cp1 (wW σ d (va_cpy (sI σ s) (sI σ d) 0 0 n)) d' s' n'
  exact ⟨_, rfl, ⟨rfl, rfl, rfl⟩, fun b q1 q2 => by rw [b2 b q2, a2 b q1], fun j hj => by rw [b2 d h1, a3 j hj], fun j hj => by rw [b3 j hj, a2 s' h2]⟩
theorem x_copyLand {a0 a1 K P N tl : Nat} {σ : MS} {L B : Row2} (h0 : sI σ a1 0 = nI tl) (ht : tl ≤ 1) (hL : LX a1 σ K P N L) (hB : SX (a1 + 8) σ B) (hK : K ≤ 5) (hP : P ≤ 4) (hN : N ≤ 6) (hd : a0 + 11 < a1 ∨ a1 + 11 < a0) : ∃ σ', f_X3_copyFrom a0 a1 σ = some σ' ∧ sI σ' a0 0 = nI tl ∧ LX a0 σ' K P N L ∧ SX (a0 + 8) σ' B ∧ Sm σ σ' ∧ ∀ b, b < a0 ∨ a0 + 11 < b → sI σ' b = sI σ b := by
  -- the first numbers
  obtain ⟨σ1, e1, m1, r1, p0, p1, p2⟩ : ∃ σ1, b_X3_copyFrom_0 a0 a1 σ = b_X3_copyFrom_24 a0 a1 σ1 ∧ Sm σ σ1 ∧ (∀ b, b ≠ a0 → sI σ1 b = sI σ b) ∧ sI σ1 a0 0 = sI σ a1 0 ∧ sI σ1 a0 1 = sI σ a1 1 ∧ sI σ1 a0 2 = sI σ a1 2 := by
    have hc : sI σ a1 0 = 0 ∨ sI σ a1 0 = 1 := by
      rw [h0]
      rcases (by omega : tl = 0 ∨ tl = 1) with e | e
      · left; rw [e]; rfl
      · right; rw [e]; rfl
    unfold b_X3_copyFrom_0
    rw [chk_t hc]
    refine ⟨_, rfl, ⟨rfl, rfl, rfl⟩, fun b hb => by rw [sI_wIn _ _ _ _ hb, sI_wIn _ _ _ _ hb, sI_wIn _ _ _ _ hb], ?_, ?_, ?_⟩
    · rw [sI_wIk _ _ _ _ (by decide), sI_wIk _ _ _ _ (by decide), sI_wIs]
    · rw [sI_wIk _ _ _ _ (by decide), sI_wIs, sI_wIn _ _ _ _ (by omega)]
    · rw [sI_wIs, sI_wIn _ _ _ _ (by omega), sI_wIn _ _ _ _ (by omega)]
  obtain ⟨σ2, e2, m2, r2, k2, p3, p4, w1⟩ : ∃ σ2, b_X3_copyFrom_24 a0 a1 σ1 = b_X3_copyFrom_54 a0 a1 σ2 ∧ Sm σ1 σ2 ∧ (∀ b, b ≠ a0 → b ≠ a0 + 1 → sI σ2 b = sI σ1 b) ∧ (∀ j, j ≠ 3 → j ≠ 4 → sI σ2 a0 j = sI σ1 a0 j) ∧ sI σ2 a0 3 = sI σ1 a1 3 ∧ sI σ2 a0 4 = sI σ1 a1 4 ∧ ∀ j, j < 5 → sI σ2 (a0 + 1) j = sI σ1 (a1 + 1) j := by
    unfold b_X3_copyFrom_24
    rw [i0, i5]
    refine ⟨_, rfl, ⟨rfl, rfl, rfl⟩, fun b q1 q2 => by rw [sI_wWn _ _ _ q2, sI_wIn _ _ _ _ q1, sI_wIn _ _ _ _ q1], fun j q1 q2 => by rw [sI_wWn _ _ _ (by omega), sI_wIk _ _ _ _ q2, sI_wIk _ _ _ _ q1], ?_, ?_, fun j hj => ?_⟩
    · rw [sI_wWn _ _ _ (by omega), sI_wIk _ _ _ _ (by decide), sI_wIs]
    · rw [sI_wWn _ _ _ (by omega), sI_wIs, sI_wIn _ _ _ _ (by omega)]
    · rw [sI_wWs, cpy_in hj, sI_wIn _ _ _ _ (by omega), sI_wIn _ _ _ _ (by omega)]
  obtain ⟨σ3, e3, m3, r3, w2, w3⟩ := cp2 σ2 (a0 + 2) (a1 + 2) 5 (a0 + 3) (a1 + 3) 4 (by omega) (by omega)
  obtain ⟨σ4, e4, m4, r4, w4, w5⟩ := cp2 σ3 (a0 + 4) (a1 + 4) 4 (a0 + 5) (a1 + 5) 4 (by omega) (by omega)
  obtain ⟨σ5, e5, m5, r5, w6, w7⟩ := cp2 σ4 (a0 + 6) (a1 + 6) 6 (a0 + 7) (a1 + 7) 6 (by omega) (by omega)
  have f1 : ∀ b, (b < a0 ∨ a0 < b) → sI σ1 b = sI σ b := fun b hb => r1 b (by omega)
  have f2 : ∀ b, (b < a0 ∨ a0 + 1 < b) → sI σ2 b = sI σ b := fun b hb => by rw [r2 b (by omega) (by omega), f1 b (by omega)]
  have f3 : ∀ b, (b < a0 ∨ a0 + 3 < b) → sI σ3 b = sI σ b := fun b hb => by rw [r3 b (by omega) (by omega), f2 b (by omega)]
  have f4 : ∀ b, (b < a0 ∨ a0 + 5 < b) → sI σ4 b = sI σ b := fun b hb => by rw [r4 b (by omega) (by omega), f3 b (by omega)]
  have f5 : ∀ b, (b < a0 ∨ a0 + 7 < b) → sI σ5 b = sI σ b := fun b hb => by rw [r5 b (by omega) (by omega), f4 b (by omega)]
  have hB5 : SX (a1 + 8) σ5 B := hB.fr (fun b q1 q2 => f5 b (by omega))
  obtain ⟨σ6, c1, c2, c3⟩ := x_copy (a0 := a0 + 8) hB5 (by omega)
  have g0 : sI σ6 a0 = sI σ2 a0 := by rw [c3.2 _ (by omega), r5 _ (by omega) (by omega), r4 _ (by omega) (by omega), r3 _ (by omega) (by omega)]
  have g1 : sI σ6 (a0 + 1) = sI σ2 (a0 + 1) := by rw [c3.2 _ (by omega), r5 _ (by omega) (by omega), r4 _ (by omega) (by omega), r3 _ (by omega) (by omega)]
  have g2 : sI σ6 (a0 + 2) = sI σ3 (a0 + 2) := by rw [c3.2 _ (by omega), r5 _ (by omega) (by omega), r4 _ (by omega) (by omega)]
  have g3 : sI σ6 (a0 + 3) = sI σ3 (a0 + 3) := by rw [c3.2 _ (by omega), r5 _ (by omega) (by omega), r4 _ (by omega) (by omega)]
  have g4 : sI σ6 (a0 + 4) = sI σ4 (a0 + 4) := by rw [c3.2 _ (by omega), r5 _ (by omega) (by omega)]
  have g5 : sI σ6 (a0 + 5) = sI σ4 (a0 + 5) := by rw [c3.2 _ (by omega), r5 _ (by omega) (by omega)]
  have g6 : sI σ6 (a0 + 6) = sI σ5 (a0 + 6) := by rw [c3.2 _ (by omega)]
  have g7 : sI σ6 (a0 + 7) = sI σ5 (a0 + 7) := by rw [c3.2 _ (by omega)]
  obtain ⟨⟨l1, l2, l3, l4⟩, l5, l6, l7⟩ := hL
  refine ⟨σ6, ?_, ?_, ⟨⟨?_, ?_, ?_, ?_⟩, fun k hk => ⟨?_, ?_⟩, fun p hp => ⟨?_, ?_, ?_⟩, fun w hw => ⟨?_, ?_⟩⟩, c2, m1.trans (m2.trans (m3.trans (m4.trans (m5.trans c3.1)))), fun b hb => ?_⟩
  · unfold f_X3_copyFrom
    rw [e1, e2]
    unfold b_X3_copyFrom_54
    rw [i0, i5, i4, ← e3]
    unfold b_X3_copyFrom_82
    rw [i0, i4, ← e4]
    unfold b_X3_copyFrom_110
    rw [i0, i6, ← e5]
    unfold b_X3_copyFrom_140
    rw [c1]; rfl
  · rw [g0, k2 0 (by decide) (by decide), p0]; exact h0
  · rw [g0, k2 2 (by decide) (by decide), p2]; exact l1
  · rw [g0, p3, f1 _ (by omega)]; exact l2
  · rw [g0, p4, f1 _ (by omega)]; exact l3
  · rw [g0, k2 1 (by decide) (by decide), p1]; exact l4
  · rw [g1, w1 k (by omega), f1 _ (by omega)]; exact (l5 k hk).1
  · rw [g2, w2 k (by omega), f2 _ (by omega)]; exact (l5 k hk).2
  · rw [g3, w3 p (by omega), f2 _ (by omega)]; exact (l6 p hp).1
  · rw [g4, w4 p (by omega), f3 _ (by omega)]; exact (l6 p hp).2.1
  · rw [g5, w5 p (by omega), f3 _ (by omega)]; exact (l6 p hp).2.2
  · rw [g6, w6 w (by omega), f4 _ (by omega)]; exact (l7 w hw).1
  · rw [g7, w7 w (by omega), f4 _ (by omega)]; exact (l7 w hw).2
  · rw [c3.2 _ (by omega), f5 b (by omega)]
theorem nI_bv (x : Int32) : nI x.toBitVec.toNat = x := by
  apply Int32.toBitVec_inj.mp
  show BitVec.ofNat 32 x.toBitVec.toNat = x.toBitVec
  rw [BitVec.ofNat_toNat, BitVec.setWidth_eq]
theorem SX.any (a : Nat) (σ : MS) : ∃ S, SX a σ S := by
  refine ⟨fun r w => if r = 0 then (sI σ (a + 1) w + 1).toBitVec.toNat else if r = 1 then (sI σ (a + 2) w).toBitVec.toNat else if r = 2 then (sI σ (a + 3) w).toBitVec.toNat else (sI σ a w).toBitVec.toNat, fun w _ => ⟨?_, ?_⟩, fun p _ => ?_, ?_, ?_, ?_⟩
  · show _ = nI (sI σ (a + 1) w + 1).toBitVec.toNat - 1
    rw [nI_bv, Int32.add_sub_cancel]
  · show _ = nI (sI σ (a + 2) w).toBitVec.toNat
    rw [nI_bv]
  · show _ = nI (sI σ (a + 3) p).toBitVec.toNat
    rw [nI_bv]
  · show _ = nI (sI σ a 3).toBitVec.toNat
    rw [nI_bv]
  · show _ = nI (sI σ a 4).toBitVec.toNat
    rw [nI_bv]
  · show _ = nI (sI σ a 5).toBitVec.toNat
    rw [nI_bv]
/-- behind the slots -/
def cwE (a0 a1 : Nat) (σ : MS) : Option MS := (b_X10_copyFrom_87 a0 a1 (wW (wI (wI σ a0 3 (sI σ a1 3)) a0 4 (sI (wI σ a0 3 (sI σ a1 3)) a1 4)) (a0 + 18) (va_cpy (sI (wI (wI σ a0 3 (sI σ a1 3)) a0 4 (sI (wI σ a0 3 (sI σ a1 3)) a1 4)) (a1 + 18)) (sI (wI (wI σ a0 3 (sI σ a1 3)) a0 4 (sI (wI σ a0 3 (sI σ a1 3)) a1 4)) (a0 + 18)) (ix (0 : Int32)) (ix (0 : Int32)) (ix (10 : Int32)))))
theorem cwE_ok {a0 a1 : Nat} (σ : MS) (hd : a0 + 20 < a1 ∨ a1 + 20 < a0) : ∃ σ', cwE a0 a1 σ = some σ' ∧ Sm σ σ' ∧ (∀ b, b ≠ a0 → b ≠ a0 + 18 → b ≠ a0 + 19 → b ≠ a0 + 20 → sI σ' b = sI σ b) ∧ (∀ k, (k = 3 ∨ k = 4 ∨ k = 8 ∨ k = 9 ∨ k = 10) → sI σ' a0 k = sI σ a1 k) ∧ (∀ j, j < 10 → sI σ' (a0 + 18) j = sI σ (a1 + 18) j ∧ sI σ' (a0 + 19) j = sI σ (a1 + 19) j ∧ sI σ' (a0 + 20) j = sI σ (a1 + 20) j) := by
  obtain ⟨σ1, e1, m1, r1, p3, p4, w1⟩ : ∃ σ1, cwE a0 a1 σ = b_X10_copyFrom_87 a0 a1 σ1 ∧ Sm σ σ1 ∧ (∀ b, b ≠ a0 → b ≠ a0 + 18 → sI σ1 b = sI σ b) ∧ sI σ1 a0 3 = sI σ a1 3 ∧ sI σ1 a0 4 = sI σ a1 4 ∧ ∀ j, j < 10 → sI σ1 (a0 + 18) j = sI σ (a1 + 18) j := by
    unfold cwE
    rw [i0, i10]
    refine ⟨_, rfl, ⟨rfl, rfl, rfl⟩, fun b q1 q2 => by rw [sI_wWn _ _ _ q2, sI_wIn _ _ _ _ q1, sI_wIn _ _ _ _ q1], ?_, ?_, fun j hj => ?_⟩
    · rw [sI_wWn _ _ _ (by omega), sI_wIk _ _ _ _ (by decide), sI_wIs]
    · rw [sI_wWn _ _ _ (by omega), sI_wIs, sI_wIn _ _ _ _ (by omega)]
    · rw [sI_wWs, cpy_in hj, sI_wIn _ _ _ _ (by omega), sI_wIn _ _ _ _ (by omega)]
  obtain ⟨σ2, e2, m2, r2, w2, w3⟩ := cp2 σ1 (a0 + 19) (a1 + 19) 10 (a0 + 20) (a1 + 20) 10 (by omega) (by omega)
  obtain ⟨σ3, e3, m3, r3, p8, p9, p10, k3⟩ : ∃ σ3, b_X10_copyFrom_117 a0 a1 σ2 = some σ3 ∧ Sm σ2 σ3 ∧ (∀ b, b ≠ a0 → sI σ3 b = sI σ2 b) ∧ sI σ3 a0 8 = sI σ2 a1 8 ∧ sI σ3 a0 9 = sI σ2 a1 9 ∧ sI σ3 a0 10 = sI σ2 a1 10 ∧ (∀ j, j < 8 → sI σ3 a0 j = sI σ2 a0 j) := by
    unfold b_X10_copyFrom_117 b_X10_copyFrom_141
    refine ⟨_, rfl, ⟨rfl, rfl, rfl⟩, fun b hb => by rw [sI_wIn _ _ _ _ hb, sI_wIn _ _ _ _ hb, sI_wIn _ _ _ _ hb], ?_, ?_, ?_, fun j hj => by rw [sI_wIk _ _ _ _ (by omega), sI_wIk _ _ _ _ (by omega), sI_wIk _ _ _ _ (by omega)]⟩
    · rw [sI_wIk _ _ _ _ (by decide), sI_wIk _ _ _ _ (by decide), sI_wIs]
    · rw [sI_wIk _ _ _ _ (by decide), sI_wIs, sI_wIn _ _ _ _ (by omega)]
    · rw [sI_wIs, sI_wIn _ _ _ _ (by omega), sI_wIn _ _ _ _ (by omega)]
  have f2 : ∀ b, b ≠ a0 → b ≠ a0 + 18 → b ≠ a0 + 19 → b ≠ a0 + 20 → sI σ2 b = sI σ b := fun b q1 q2 q3 q4 => by rw [r2 b q3 q4, r1 b q1 q2]
  refine ⟨σ3, ?_, m1.trans (m2.trans m3), fun b q1 q2 q3 q4 => by rw [r3 b q1, f2 b q1 q2 q3 q4], fun k hk => ?_, fun j hj => ⟨?_, ?_, ?_⟩⟩
  · rw [e1]
    unfold b_X10_copyFrom_87
    rw [i0, i10, ← e2, e3]
  · rcases hk with e | e | e | e | e
    · subst e; rw [k3 3 (by decide), r2 _ (by omega) (by omega), p3]
    · subst e; rw [k3 4 (by decide), r2 _ (by omega) (by omega), p4]
    · subst e; rw [p8, f2 _ (by omega) (by omega) (by omega) (by omega)]
    · subst e; rw [p9, f2 _ (by omega) (by omega) (by omega) (by omega)]
    · subst e; rw [p10, f2 _ (by omega) (by omega) (by omega) (by omega)]
  · rw [r3 _ (by omega), r2 _ (by omega) (by omega), w1 j hj]
  · rw [r3 _ (by omega), w2 j hj, r1 _ (by omega) (by omega)]
  · rw [r3 _ (by omega), w3 j hj, r1 _ (by omega) (by omega)]
/-- while slots are copied -/
def CWI (a0 a1 v0 : Nat) (ow : Nat → Nat) (σ0 : MS) (i : Nat) (σ : MS) (ow' : Nat → Nat) : Prop :=
  (sN σ0 ≤ sN σ ∧ sN σ ≤ sN σ0 + 4 * i) ∧ (∀ p, p < sN σ0 → sS σ p = sS σ0 p) ∧ (∀ p, p < sN σ0 → (p < 56 ∨ ow p < 100 + 20 * v0 ∨ 100 + 20 * v0 + 20 ≤ ow p) → sI σ p = sI σ0 p) ∧ (∀ c, c < sN σ0 → c ≠ a0 + 17 → sR σ c = sR σ0 c) ∧ (∀ p, p < sN σ0 → ow' p = ow p) ∧ (∀ s, s < 20 → ∀ b, sR σ (a0 + 17) s = some b → 56 ≤ b ∧ dRt σ b shState ∧ ∀ k, k < 4 → ow' (b + k) = 100 + 20 * v0 + s) ∧ (∀ s, s < i → ∀ c S, sR σ0 (a1 + 17) s = some c → SX c σ0 S → ∃ b, sR σ (a0 + 17) s = some b ∧ SX b σ S)
theorem cw_loop {a0 a1 v0 v1 : Nat} {ow : Nat → Nat} {σ0 : MS} (hne : v0 ≠ v1) (hd : a0 + 20 < a1 ∨ a1 + 20 < a0) (hN : sN σ0 + 80 ≤ 1000000) (h56 : 56 ≤ sN σ0) (hw0 : dRt σ0 a0 shWorld) (hw1 : dRt σ0 a1 shWorld) (h1 : ∀ s, s < 20 → ∀ c, sR σ0 (a1 + 17) s = some c → 56 ≤ c ∧ dRt σ0 c shState ∧ ∀ i, i < 4 → ow (c + i) = 100 + 20 * v1 + s) : ∀ (j i n : Nat) (σ : MS) (ow' : Nat → Nat), i + j = 20 → j < n → CWI a0 a1 v0 ow σ0 i σ ow' → ∃ σ' ow'', b_X10_copyFrom_24 a0 a1 n (nI i) σ = cwE a0 a1 σ' ∧ CWI a0 a1 v0 ow σ0 20 σ' ow''
  | 0, i, n + 1, σ, ow', hi, _, h => by
    refine ⟨σ, ow', ?_, ?_⟩
    · unfold b_X10_copyFrom_24 cwE
      rw [q_ln_le (by decide) (by omega), if_pos (by omega)]
    · rw [show i = 20 by omega] at h; exact h
  | j + 1, i, n + 1, σ, ow', hi, hj, h => by
    have hh := h
    obtain ⟨⟨c1, c2⟩, c3, c4, c5, c6, c7, c8⟩ := h
    have l0 : a0 + 21 ≤ sN σ0 := hw0.1
    have l1 : a1 + 21 ≤ sN σ0 := hw1.1
    have eR : sR σ (a1 + 17) = sR σ0 (a1 + 17) := c5 _ (by omega) (by omega)
    cases e : sR σ0 (a1 + 17) i with
    | none =>
      obtain ⟨σ', ow'', g1, g2⟩ := cw_loop hne hd hN h56 hw0 hw1 h1 j (i + 1) n σ ow' (by omega) (by omega) ⟨⟨c1, by omega⟩, c3, c4, c5, c6, c7, fun s hs c S hc hS => by
        by_cases q : s = i
        · subst q; rw [e] at hc; cases hc
        · exact c8 s (by omega) c S hc hS⟩
      refine ⟨σ', ow'', ?_, g2⟩
      rw [← g1]
      conv => lhs; unfold b_X10_copyFrom_24 b_X10_copyFrom_50
      rw [q_ln_le (by decide) (by omega), if_neg (by omega), chk_t (in_n (show i < 20 by omega) (by decide)), ix_n (by omega), eR, e, onr_n, nI_1]
    | some c =>
      obtain ⟨q1, q2, q3⟩ := h1 i (by omega) c e
      have hc4 : c + 4 ≤ sN σ0 := q2.1
      have hcs : ∀ p, c ≤ p → p ≤ c + 3 → sI σ p = sI σ0 p := fun p u1 u2 => by
        refine c4 p (by omega) (Or.inr ?_)
        have := q3 (p - c) (by omega)
        rw [show c + (p - c) = p by omega] at this
        rw [this]; omega
      have q2' : dRt σ c shState := q2.fr c1 c3
      have hbd : ∀ b, sR σ (a0 + 17) i = some b → dRt σ b shState ∧ (b + 3 < c ∨ c + 3 < b) := fun b hb => by
        obtain ⟨u1, u2, u3⟩ := c7 i (by omega) b hb
        refine ⟨u2, ?_⟩
        by_cases z : b + 3 < c ∨ c + 3 < b
        · exact z
        · exfalso
          by_cases y : b ≤ c
          · have t1 := u3 (c - b) (by omega)
            have t2 := q3 0 (by omega)
            rw [show b + (c - b) = c by omega, c6 c (by omega)] at t1
            rw [Nat.add_zero] at t2
            omega
          · have t1 := u3 0 (by omega)
            have t2 := q3 (b - c) (by omega)
            rw [Nat.add_zero, c6 b (by omega)] at t1
            rw [show c + (b - c) = b by omega] at t2
            omega
      have kp : ∀ S, SX c σ S → _ := fun S hS => x_keepPast (a0 := a0) (a2 := c) (s := i) (σ := σ) (S := S) (by omega) (by omega) (hw0.fr c1 c3) q2' hS hbd
      obtain ⟨Sc, hSc⟩ := SX.any c σ
      obtain ⟨σ1, b, k1, k2, k3, k4, k5, k6, k7, k8⟩ := kp Sc hSc
      have hb56 : 56 ≤ b := by
        rcases k5 with ⟨q, _⟩ | ⟨_, q, _⟩
        · exact (c7 i (by omega) b q).1
        · omega
      have hN1 : sN σ ≤ sN σ1 ∧ sN σ1 ≤ sN σ + 4 := by
        rcases k5 with ⟨_, q⟩ | ⟨_, _, q⟩ <;> omega
      have hb4 : b + 4 ≤ sN σ1 := k4.1
      have how : ∀ k, k < 4 → (if b + k < sN σ then ow' (b + k) else 100 + 20 * v0 + i) = 100 + 20 * v0 + i := fun k hk => by
        rcases k5 with ⟨q, q2⟩ | ⟨_, q, _⟩
        · rw [if_pos (by omega)]; exact (c7 i (by omega) b q).2.2 k hk
        · rw [if_neg (by omega)]
      have hdf : ∀ p, p < sN σ → (p < 56 ∨ ow' p ≠ 100 + 20 * v0 + i) → sI σ1 p = sI σ p := fun p hp hq => by
        refine k7 p hp ?_
        by_cases z : b ≤ p ∧ p ≤ b + 3
        · have := how (p - b) (by omega)
          rw [show b + (p - b) = p by omega, if_pos hp] at this
          omega
        · omega
      obtain ⟨σ', ow'', g1, g2⟩ := cw_loop hne hd hN h56 hw0 hw1 h1 j (i + 1) n σ1 (fun p => if p < sN σ then ow' p else 100 + 20 * v0 + i) (by omega) (by omega) ⟨⟨by omega, by omega⟩, fun p hp => by rw [k6 p (by omega), c3 p hp], fun p hp hq => by
          rw [hdf p (by omega) (by rw [c6 p hp]; omega), c4 p hp hq], fun d hd2 hd3 => by
          funext x
          rw [k8 d x (by omega) (Or.inl hd3), c5 d hd2 hd3], fun p hp => (if_pos (by omega)).trans (c6 p hp), fun s hs d hd2 => by
          by_cases z : s = i
          · subst z
            rw [k2] at hd2
            injection hd2 with hd2
            subst hd2
            exact ⟨hb56, k4, how⟩
          · rw [k8 _ _ (by omega) (Or.inr z)] at hd2
            obtain ⟨u1, u2, u3⟩ := c7 s hs d hd2
            have : d + 4 ≤ sN σ := u2.1
            exact ⟨u1, u2.fr hN1.1 k6, fun k hk => (if_pos (by omega)).trans (u3 k hk)⟩, fun s hs d S hd2 hS => by
          by_cases z : s = i
          · subst z
            rw [e] at hd2
            injection hd2 with hd2
            subst hd2
            obtain ⟨σ2, b2, t1, t2, t3, _⟩ := kp S (hS.fr hcs)
            rw [k1] at t1
            injection t1 with t1
            subst t1
            exact ⟨b2, t2, t3⟩
          · obtain ⟨b2, t1, t2⟩ := c8 s (by omega) d S hd2 hS
            obtain ⟨u1, u2, u3⟩ := c7 s (by omega) b2 t1
            have : b2 + 4 ≤ sN σ := u2.1
            refine ⟨b2, by rw [k8 _ _ (by omega) (Or.inr z)]; exact t1, t2.fr (fun p y1 y2 => ?_)⟩
            have := u3 (p - b2) (by omega)
            rw [show b2 + (p - b2) = p by omega] at this
            exact hdf p (by omega) (Or.inr (by omega))⟩
      refine ⟨σ', ow'', ?_, g2⟩
      rw [← g1]
      have d0 : dRt σ1 a0 shWorld := (hw0.fr c1 c3).fr hN1.1 k6
      have d1 : dRt σ1 a1 shWorld := (hw1.fr c1 c3).fr hN1.1 k6
      conv => lhs; unfold b_X10_copyFrom_24 b_X10_copyFrom_50
      rw [q_ln_le (by decide) (by omega), if_neg (by omega), chk_t (in_n (show i < 20 by omega) (by decide)), ix_n (by omega), eR, e, onr_s, chk_t q2', chk_t (in_n (show i < 20 by omega) (by decide)), onr_s, chk_t q2', k1, bnd, chk_t d0, chk_t d1, nI_1]
  | _, _, 0, _, _, _, hn, _ => absurd hn (Nat.not_lt_zero _)
theorem x_copyWorld {a0 a1 v0 v1 : Nat} {ow : Nat → Nat} {σ : MS} {W : Wd} (hx : XW ow v1 a1 σ W) (hW : WW W) (hne : v0 ≠ v1) (hd : a0 + 20 < a1 ∨ a1 + 20 < a0) (hN : sN σ + 80 ≤ 1000000) (h56 : 56 ≤ sN σ) (hw0 : dRt σ a0 shWorld) (hw1 : dRt σ a1 shWorld) (o0 : ∀ i, i < 21 → a0 + i < 56 ∨ ow (a0 + i) < 100) (o1 : ∀ i, i < 21 → a1 + i < 56 ∨ ow (a1 + i) < 100) (h0 : ∀ s, s < 20 → ∀ b, sR σ (a0 + 17) s = some b → 56 ≤ b ∧ dRt σ b shState ∧ ∀ i, i < 4 → ow (b + i) = 100 + 20 * v0 + s) : ∃ σ' ow', f_X10_copyFrom a0 a1 σ = some σ' ∧ XW ow' v0 a0 σ' W ∧ (sN σ ≤ sN σ' ∧ sN σ' ≤ sN σ + 80) ∧ (∀ p, p < sN σ → sS σ' p = sS σ p) ∧ (∀ p, p < sN σ → (p < a0 ∨ a0 + 20 < p) → (p < 56 ∨ ow p < 100 + 20 * v0 ∨ 100 + 20 * v0 + 20 ≤ ow p) → sI σ' p = sI σ p) ∧ (∀ c, c < sN σ → c ≠ a0 + 17 → sR σ' c = sR σ c) ∧ (∀ p, p < sN σ → ow' p = ow p) := by
  have l0 : a0 + 21 ≤ sN σ := hw0.1
  have l1 : a1 + 21 ≤ sN σ := hw1.1
  have hx' := hx
  obtain ⟨⟨x1, x2⟩, x3, x4, ⟨x5, x6, x7, x8⟩, x9, np, y1, y2, y3, y4⟩ := hx
  obtain ⟨⟨w1, w2, w3, w4, w5⟩, ⟨⟨⟨w6, w7, w8, _⟩, _⟩, _⟩, _⟩ := hW
  obtain ⟨σ1, a1e, a2, a3, a4, a5, a6⟩ := x_copyLand (a0 := a0 + 1) (a1 := a1 + 1) x1 w1 x2 x3 w6 w7 w8 (by omega)
  have d0 : dRt σ1 a0 shWorld := hw0.fr (Nat.le_of_eq a5.1.symm) (fun p _ => by rw [a5.2.1])
  have d1 : dRt σ1 a1 shWorld := hw1.fr (Nat.le_of_eq a5.1.symm) (fun p _ => by rw [a5.2.1])
  have s1 : SX (a1 + 13) σ1 (wS W) := x4.fr (fun p q1 q2 => a6 p (by omega))
  obtain ⟨σ2, b1, b2, b3⟩ := x_copy (a0 := a0 + 13) s1 (by omega)
  have sm : Sm σ σ2 := a5.trans b3.1
  have e0 : dRt σ2 a0 shWorld := hw0.fr (Nat.le_of_eq sm.1.symm) (fun p _ => by rw [sm.2.1])
  have e1 : dRt σ2 a1 shWorld := hw1.fr (Nat.le_of_eq sm.1.symm) (fun p _ => by rw [sm.2.1])
  have rr : ∀ p, (p < a0 + 1 ∨ a0 + 16 < p) → sI σ2 p = sI σ p := fun p hp => by rw [b3.2 p (by omega), a6 p (by omega)]
  have hx2 : XW ow v1 a1 σ2 W := hx'.fr (fun p q1 q2 => rr p (by omega)) (by rw [sm.2.2]) (Nat.le_of_eq sm.1.symm) (fun p _ => by rw [sm.2.1]) (fun p q1 q2 q3 q4 => by
    refine rr p ?_
    by_cases z : a0 + 1 ≤ p ∧ p ≤ a0 + 16
    · have := o0 (p - a0) (by omega)
      rw [show a0 + (p - a0) = p by omega] at this
      omega
    · omega) (fun _ _ => rfl)
  have dr : ∀ b, dRt σ b shState → dRt σ2 b shState := fun b h => h.fr (Nat.le_of_eq sm.1.symm) (fun p _ => by rw [sm.2.1])
  obtain ⟨σ3, ow3, c1, ⟨c2, c2'⟩, c3, c4, c5, c6, c7, c8⟩ := cw_loop (a0 := a0) (a1 := a1) (v0 := v0) (v1 := v1) (ow := ow) (σ0 := σ2) hne hd (by rw [sm.1]; exact hN) (by rw [sm.1]; exact h56) e0 e1 (fun s hs c hc => by
    rw [sm.2.2] at hc
    obtain ⟨u1, u2, u3⟩ := y3 s hs c hc
    exact ⟨u1, dr c u2, u3⟩) 20 0 21 σ2 ow (by decide) (by decide) ⟨⟨Nat.le_refl _, Nat.le_refl _⟩, fun _ _ => rfl, fun _ _ _ => rfl, fun _ _ _ => rfl, fun _ _ => rfl, fun s hs b hb => by
    rw [sm.2.2] at hb
    obtain ⟨u1, u2, u3⟩ := h0 s hs b hb
    exact ⟨u1, dr b u2, u3⟩, fun s hs => absurd hs (Nat.not_lt_zero _)⟩
  obtain ⟨σ4, f1, f2, f3, f4, f5⟩ := cwE_ok (a0 := a0) (a1 := a1) σ3 hd
  have n2 : sN σ2 = sN σ := sm.1
  -- rows of the two worlds
  have t0 : ∀ i, i < 21 → sI σ3 (a0 + i) = sI σ2 (a0 + i) := fun i hi => c4 _ (by omega) (by have := o0 i hi; omega)
  have t1 : ∀ i, i < 21 → sI σ3 (a1 + i) = sI σ (a1 + i) := fun i hi => by rw [c4 _ (by omega) (by have := o1 i hi; omega), rr _ (by omega)]
  have tw : ∀ i, 1 ≤ i → i < 17 → sI σ4 (a0 + i) = sI σ2 (a0 + i) := fun i u1 u2 => by rw [f3 _ (by omega) (by omega) (by omega) (by omega), t0 i (by omega)]
  have t1z : sI σ3 a1 = sI σ a1 := t1 0 (by decide)
  refine ⟨σ4, ow3, ?_, ⟨⟨?_, ?_⟩, ?_, ?_, ⟨?_, ?_, ?_, ?_⟩, fun i hi => ?_, np, y1, ?_, fun s hs b hb => ?_, fun i hi => ?_⟩, ⟨by rw [f2.1]; omega, by rw [f2.1]; omega⟩, fun p hp => by rw [f2.2.1, c3 p (by omega), sm.2.1], fun p hp q1 q2 => ?_, fun c hc q => by rw [f2.2.2, c5 c (by omega) q, sm.2.2], fun p hp => c6 p (by omega)⟩
  · unfold f_X10_copyFrom b_X10_copyFrom_0
    rw [a1e, bnd, chk_t d0, chk_t d1, b1, bnd, chk_t e0, chk_t e1, show (0 : Int32) = nI 0 from rfl, c1, f1]
  · rw [tw 1 (by decide) (by decide), b3.2 _ (by omega)]; exact a2
  · refine a3.fr (fun p q1 q2 => ?_)
    have := tw (p - a0) (by omega) (by omega)
    rw [show a0 + (p - a0) = p by omega] at this
    rw [this, b3.2 _ (by omega)]
  · have h := a4
    refine (show SX (a0 + 9) σ1 (wB W) from h).fr (fun p q1 q2 => ?_)
    have := tw (p - a0) (by omega) (by omega)
    rw [show a0 + (p - a0) = p by omega] at this
    rw [this, b3.2 _ (by omega)]
  · refine b2.fr (fun p q1 q2 => ?_)
    have := tw (p - a0) (by omega) (by omega)
    rw [show a0 + (p - a0) = p by omega] at this
    exact this
  · rw [f4 9 (by decide), t1z]; exact x5
  · rw [f4 10 (by decide), t1z]; exact x6
  · rw [f4 8 (by decide), t1z]; exact x7
  · rw [f4 4 (by decide), t1z]; exact x8
  · obtain ⟨g1, g2, g3⟩ := f5 i (by omega)
    rw [g1, g2, g3, t1 18 (by decide), t1 19 (by decide), t1 20 (by decide)]; exact x9 i hi
  · rw [f4 3 (by decide), t1z]; exact y2
  · rw [f2.2.2] at hb
    obtain ⟨u1, u2, u3⟩ := c7 s hs b hb
    exact ⟨u1, ⟨by rw [f2.1]; exact u2.1, fun i hi => by rw [f2.2.1]; exact u2.2 i hi⟩, u3⟩
  · have hlt := Nat.mod_lt (np + 19 - i) (show 0 < 20 by decide)
    obtain ⟨np2, z1, z2, z3, z4⟩ := hx2.2.2.2.2.2
    have en : np2 = np := by
      rw [rr _ (by omega), y2] at z2
      exact ((nI_eq (by omega) (by omega)).mp z2).symm
    subst en
    obtain ⟨c, u1, u2⟩ := z4 i hi
    obtain ⟨b, v1, v2⟩ := c8 _ hlt c _ u1 u2
    refine ⟨b, by rw [f2.2.2]; exact v1, v2.fr (fun p q1 q2 => ?_)⟩
    obtain ⟨p1, p2, p3⟩ := c7 _ hlt b v1
    have pw := p3 (p - b) (by omega)
    rw [show b + (p - b) = p by omega] at pw
    have out : ∀ i, i < 21 → p ≠ a0 + i := fun i hi z => by
      subst z
      rw [c6 _ (by omega)] at pw
      have := o0 i hi
      omega
    exact f3 p (out 0 (by decide)) (out 18 (by decide)) (out 19 (by decide)) (out 20 (by decide))
  · rw [f3 p (by omega) (by omega) (by omega) (by omega), c4 p (by omega) q2, rr p (by omega)]
end
