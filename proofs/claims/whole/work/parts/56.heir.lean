/-! ===== pure: whom a work goes to ===== -/
section
theorem wJj (σ : MS) (J : Nat → Nat → Int64) (a k : Nat) (v : Int64) : wJ (jw σ J) a k v = jw σ (up2 J a k v) := rfl
def ewd (L S : Row2) (w q v : Nat) : Nat := if v = 0 then q else if v = 1 then w else if v = 2 then L 5 w else if v = 3 then L 1 (L 5 w) else if v = 4 then L 0 (L 5 w) else if v = 5 then S 2 q else if v = 6 then cntB (hb S q) 6 else if v = 7 then L 4 q else if v = 8 then S 3 5 else if v = 9 then awk (L 2 q) (L 3 q) (S 3 5) else if v = 10 then bt (S 3 3) w else S 1 w
def env12 (L S : Row2) (w q : Nat) : Nat → Int64 := fun v => (nI (ewd L S w q v)).toInt64
/-- the land that hours go by, with one hand more for whoever is helped -/
def LH (σ : MS) (K P N : Nat) (L : Row2) : Prop :=
  (sI σ 23 2 = nI K ∧ sI σ 23 3 = nI P ∧ sI σ 23 4 = nI N ∧ sI σ 23 1 = nI (L 7 0)) ∧
  (∀ k, k < K → sI σ 24 k = nI (L 0 k) ∧ sI σ 25 k = nI (L 1 k)) ∧
  (∀ p, p < P → sI σ 26 p = nI (L 2 p) ∧ sI σ 27 p = nI (L 3 p) ∧ (sI σ 28 p + (if nI p = sI σ 44 3 then (1 : Int32) else 0)) = nI (L 4 p)) ∧
  (∀ w, w < N → sI σ 29 w = nI (L 5 w) ∧ sI σ 30 w = nI (L 6 w))
theorem LH.fr {σ σ' : MS} {K P N : Nat} {L : Row2} (h : LH σ K P N L) (hf : ∀ b, 23 ≤ b ∧ b ≤ 30 ∨ b = 44 → sI σ' b = sI σ b) : LH σ' K P N L := by
  unfold LH
  rw [hf 23 (by decide), hf 24 (by decide), hf 25 (by decide), hf 26 (by decide), hf 27 (by decide), hf 28 (by decide), hf 29 (by decide), hf 30 (by decide), hf 44 (by decide)]
  exact h
theorem LX.h {σ : MS} {K P N : Nat} {L : Row2} (h : LX 23 σ K P N L) (hP : P ≤ 4) (hn : sI σ 44 3 = -1) : LH σ K P N L := by
  obtain ⟨h1, h2, h3, h4⟩ := h
  refine ⟨h1, h2, fun p hp => ⟨(h3 p hp).1, (h3 p hp).2.1, ?_⟩, h4⟩
  rw [hn, if_neg (n_neg1 (by omega)), Int32.add_zero]
  exact (h3 p hp).2.2
section XX
variable {a : Nat} {σ : MS} {K P N : Nat} {L S : Row2}
theorem x_handsOf (hL : LH σ K P N L) (hP : P ≤ 4) {p : Nat} (hp : p < P) : f_X1_handsOf (nI p) σ = some (nI (L 4 p)) := by
  have h := (hL.2.2.1 p hp).2.2
  unfold f_X1_handsOf b_X1_handsOf_0 b_X1_handsOf_22
  rw [chk_t (in_n (by omega) (by decide)), ix_n (by omega)]
  by_cases e : nI p = sI σ 44 3
  · rw [if_pos e] at h ⊢
    rw [h]
  · rw [if_neg e] at h ⊢
    rw [h]
theorem m_has {s w : Nat} (hs : s < 64) (hw : w < 6) : f_X12_has (nI s) (nI w) = some (nI (bt s w)) := by
  unfold f_X12_has b_X12_has_0 b_X12_has_14
  rw [b_get s hs w hw, q_nl_eq (by omega) (by have := bt_lt s w; omega)]
  have := bt_lt s w
  rcases (by omega : bt s w = 0 ∨ bt s w = 1) with h | h
  · rw [if_neg (by omega), h]; rfl
  · rw [if_pos (by omega), h]; rfl
theorem x_word (hL : LH σ K P N L) (hW : WL K P N L) (hS : SX a σ S) (hV : WS P N S) {w q v : Nat} (hw : w < N) (hq : q < P) (hv : v < 12) : f_X1_wordOf (nI v) a (nI w) (nI q) σ = some (env12 L S w q v) := by
  obtain ⟨⟨hK5, hP4, hN6, _⟩, hW2, hW3, hW4⟩ := hW
  have hk := (hW4 w hw).1
  have iw : ix (nI w) = w := ix_n (by omega)
  have iq : ix (nI q) = q := ix_n (by omega)
  have ik : ix (nI (L 5 w)) = L 5 w := ix_n (by omega)
  have bw : inb (nI w) 6 := in_n (by omega) (by decide)
  have bq : inb (nI q) 4 := in_n (by omega) (by decide)
  have bk : inb (nI (L 5 w)) 5 := in_n (by omega) (by decide)
  have e29 : sI σ 29 w = nI (L 5 w) := (hL.2.2.2 w hw).1
  have e25 := (hL.2.1 (L 5 w) hk).2
  have e24 := (hL.2.1 (L 5 w) hk).1
  have ep := hS.2.1 q (by omega)
  have eh := hS.2.2.2.2
  have es := (hS.1 w (by omega)).2
  have ebit : f_X8_sneakedBit a (nI w) σ = some (nI (bt (S 3 3) w)) := by
    unfold f_X8_sneakedBit b_X8_sneakedBit_0
    rw [hS.2.2.1, b_get _ hV.2.2.1.1 w (by omega)]
  have ehw : f_X3_hoursAwake (nI q) (nI (S 3 5)) σ = some (nI (awk (L 2 q) (L 3 q) (S 3 5))) := x_hoursAwake (by omega) (hL.2.2.1 q hq).1 (hL.2.2.1 q hq).2.1 (hW3 q hq).1 (hW3 q hq).2.1 (by have := hV.2.2.2.2; omega)
  unfold f_X1_wordOf b_X1_wordOf_0 env12 ewd
  rcases (by omega : v = 0 ∨ v = 1 ∨ v = 2 ∨ v = 3 ∨ v = 4 ∨ v = 5 ∨ v = 6 ∨ v = 7 ∨ v = 8 ∨ v = 9 ∨ v = 10 ∨ v = 11) with h | h | h | h | h | h | h | h | h | h | h | h <;> subst h <;> simp (decide := true) only [if_true, if_false, iw, iq, e29, ik, e25, e24, ep, eh, es, chk_t bw, chk_t bk, chk_t bq, x_load hS (hV.hs hP4) (show q < 2 ^ 31 by omega), x_handsOf hL hP4 hq, ebit, ehw, bnd]
end XX
section MM
variable {σ : MS} {K P N : Nat} {L S : Row2}
theorem m_hasHand (hL : LM σ K P N L) (hW : WL K P N L) (hS : SM σ P N S) (hV : WS P N S) {q : Nat} (hq : q < P) : f_X12_hasHand (nI q) σ = some (nI (if cntB (hb S q) 6 < L 4 q then 1 else 0)) := by
  obtain ⟨⟨hK5, hP4, hN6, _⟩, hW2, hW3, hW4⟩ := hW
  have h7 := (hL.2.2.1 q hq).2.2
  have hc : cntB (hb S q) 6 ≤ 6 := cntB_le _ _
  have h4 := (hW3 q hq).2.2
  unfold f_X12_hasHand b_X12_hasHand_0 b_X12_hasHand_22
  rw [m_heldBy hS hL.1.2.2.1 hN6 (hV.hs hP4) (by omega), bnd, m_bits _ (msk_lt64 _ hN6), bnd, msk_pc _ N hN6, ← (hV.hb6 hN6 q).2, chk_t (in_n (by omega) (by decide)), ix_n (by omega), h7, q_le (by omega) (by omega)]
  by_cases h : cntB (hb S q) 6 < L 4 q
  · rw [if_neg (by omega), if_pos h]; rfl
  · rw [if_pos (by omega), if_neg h]; rfl
theorem m_s166 (hS : SM σ P N S) {w : Nat} (hw : w < N) (hN : N ≤ 6) (s0 : Int64) (J : Nat → Nat → Int64) : b_X12_sumOf_166 (nI w) s0 (10 : Int32) (jw σ J) = (f_X12_wanted (jw σ (up2 (up2 J 36 10 s0) 36 11 (nI (S 1 w)).toInt64))).bind (fun r18 => some (r18.1, r18.2)) := by
  have e10 := (hS.1 w hw).2
  unfold b_X12_sumOf_166
  rw [chk_t (by decide), chk_t (in_n (by omega) (by decide)), wJj, wJj, sI_jw, ix_n (n := w) (by omega), e10]
  rfl
theorem m_s94 (hL : LM σ K P N L) (hW : WL K P N L) (hS : SM σ P N S) (hV : WS P N S) {w q : Nat} (hw : w < N) (hq : q < P) (ha : asl (L 2 q) (L 3 q) (S 3 5) = 0) (J : Nat → Nat → Int64) : b_X12_sumOf_94 (nI q) (nI w) (jw σ J) = b_X12_sumOf_166 (nI w) (nI (bt (S 3 3) w)).toInt64 (10 : Int32) (jw σ (up2 (up2 (up2 J 36 7 (nI (L 4 q)).toInt64) 36 8 (nI (S 3 5)).toInt64) 36 9 (nI (awk (L 2 q) (L 3 q) (S 3 5))).toInt64)) := by
  obtain ⟨⟨hK5, hP4, hN6, _⟩, hW2, hW3, hW4⟩ := hW
  have e5 := hS.2.2.2.2
  have e6 := hS.2.2.1
  have e7 := (hL.2.2.1 q hq).2.2
  have haw : ∀ J, f_X12_awakeFor (nI q) (nI (S 3 5)) (jw σ J) = some (nI (awk (L 2 q) (L 3 q) (S 3 5))) := fun J => m_awakeFor (σ := jw σ J) (by omega) (hL.2.2.1 q hq).1 (hL.2.2.1 q hq).2.1 (hW3 q hq).1 (hW3 q hq).2.1 hV.2.2.2.2 ha
  have hhas := m_has hV.2.2.1.1 (show w < 6 by omega)
  have hb01 := bt_lt (S 3 3) w
  unfold b_X12_sumOf_94
  simp only [chk_t (in_n (show q < 4 by omega) (by decide)), wJj, sI_jw, ix_n (show q < 2 ^ 31 by omega), e5, e6, e7, haw, hhas, bnd]
  rcases (by omega : bt (S 3 3) w = 0 ∨ bt (S 3 3) w = 1) with h | h
  · rw [h, if_pos (by decide)]; rfl
  · rw [h, if_neg (by decide)]; rfl
theorem m_s47 (hL : LM σ K P N L) (hW : WL K P N L) (hS : SM σ P N S) (hV : WS P N S) {w q : Nat} (hw : w < N) (hq : q < P) (J : Nat → Nat → Int64) : b_X12_sumOf_47 (nI q) (nI w) (jw σ J) = b_X12_sumOf_94 (nI q) (nI w) (jw σ (up2 (up2 (up2 J 36 4 (nI (L 0 (L 5 w))).toInt64) 36 5 (nI (S 2 q)).toInt64) 36 6 (nI (cntB (hb S q) 6)).toInt64)) := by
  obtain ⟨⟨hK5, hP4, hN6, _⟩, hW2, hW3, hW4⟩ := hW
  have hk := (hW4 w hw).1
  have e8 : sI σ 8 w = nI (L 5 w) := (hL.2.2.2 w hw).1
  have e2 := (hL.2.1 (L 5 w) hk).1
  have e4 := hS.2.1 q hq
  have hh : ∀ J, f_X12_heldBy (nI q) (jw σ J) = some (nI (msk (hb S q) N)) := fun J => m_heldBy (σ := jw σ J) hS hL.1.2.2.1 hN6 (hV.hs hP4) (by omega)
  have hbi : f_X12_bits (nI (msk (hb S q) N)) = some (nI (cntB (hb S q) 6)) := by rw [m_bits _ (msk_lt64 _ hN6), msk_pc _ N hN6, (hV.hb6 hN6 q).2]
  unfold b_X12_sumOf_47
  simp only [wJj, sI_jw, ix_n (show q < 2 ^ 31 by omega), ix_n (show w < 2 ^ 31 by omega), ix_n (show L 5 w < 2 ^ 31 by omega), e8, e2, e4]
  rw [chk_t (in_n (show w < 6 by omega) (by decide)), chk_t (in_n (show L 5 w < 5 by omega) (by decide)), chk_t (in_n (show q < 4 by omega) (by decide)), hh, bnd, hbi, bnd]
theorem m_s0 (hL : LM σ K P N L) (hW : WL K P N L) {w q : Nat} (hw : w < N) (J : Nat → Nat → Int64) : b_X12_sumOf_0 (nI q) (nI w) (jw σ J) = b_X12_sumOf_47 (nI q) (nI w) (jw σ (up2 (up2 (up2 (up2 J 36 0 (nI q).toInt64) 36 1 (nI w).toInt64) 36 2 (nI (L 5 w)).toInt64) 36 3 (nI (L 1 (L 5 w))).toInt64)) := by
  obtain ⟨⟨hK5, hP4, hN6, _⟩, hW2, hW3, hW4⟩ := hW
  have hk := (hW4 w hw).1
  have e8 : sI σ 8 w = nI (L 5 w) := (hL.2.2.2 w hw).1
  have e3 := (hL.2.1 (L 5 w) hk).2
  unfold b_X12_sumOf_0
  simp only [chk_t (in_n (show w < 6 by omega) (by decide)), chk_t (in_n (show L 5 w < 5 by omega) (by decide)), wJj, sI_jw, ix_n (show w < 2 ^ 31 by omega), ix_n (show L 5 w < 2 ^ 31 by omega), e8, e3]
theorem up2_a {α : Type} {f : Nat → Nat → α} {k v : Nat} {x : α} (a : Nat) : up2 f a k x a v = if v = k then x else f a v := by simp [up2]
theorem m_sumOf (hL : LM σ K P N L) (hW : WL K P N L) (hS : SM σ P N S) (hV : WS P N S) {w q r : Nat} {R : List Cls} (hw : w < N) (hq : q < P) (ha : asl (L 2 q) (L 3 q) (S 3 5) = 0) (hr : r < 6) (hR0 : RMr σ r R) (hf : sI σ 1 9 = nI r) (hR : WR R) (J : Nat → Nat → Int64) : ∃ J', f_X12_sumOf (nI q) (nI w) (jw σ J) = some (takeR (env12 L S w q) R, jw σ J') := by
  unfold f_X12_sumOf
  rw [m_s0 hL hW hw, m_s47 hL hW hS hV hw hq, m_s94 hL hW hS hV hw hq ha, m_s166 hS hw hW.1.2.2.1]
  have hwb : ∀ J1 : Nat → Nat → Int64, (∀ v, v < 12 → J1 36 v = env12 L S w q v) → ∃ J', (f_X12_wanted (jw σ J1)).bind (fun r18 => some (r18.1, r18.2)) = some (takeR (env12 L S w q) R, jw σ J') := fun J1 h1 => by
    obtain ⟨J', e⟩ := m_wanted hr hR0 hf hR h1
    exact ⟨J', by rw [e]; rfl⟩
  refine hwb _ (fun v hv => ?_)
  simp only [up2_a]
  unfold env12 ewd
  rcases (by omega : v = 0 ∨ v = 1 ∨ v = 2 ∨ v = 3 ∨ v = 4 ∨ v = 5 ∨ v = 6 ∨ v = 7 ∨ v = 8 ∨ v = 9 ∨ v = 10 ∨ v = 11) with g | g | g | g | g | g | g | g | g | g | g | g <;> subst g <;> simp (decide := true) only [if_true, if_false]
end MM
/-- the rule that hours go by, on both sides -/
def Rl (σx σm : MS) : Prop := (sR σx 44 2 = none ∧ sI σm 1 9 = -1) ∨ ∃ b r R, sR σx 44 2 = some b ∧ RXc σx b (codesOf R) ∧ r < 6 ∧ sI σm 1 9 = nI r ∧ RMr σm r R ∧ WR R
section HH
variable {a : Nat} {σx σm : MS} {K P N : Nat} {L S : Row2}
/-- who could hold it -/
def cand (L S : Row2) (q : Nat) : Bool := decide (asl (L 2 q) (L 3 q) (S 3 5) = 0 ∧ cntB (hb S q) 6 < L 4 q)
theorem x_heir_at (hL : LH σx K P N L) (hW : WL K P N L) (hS : SX a σx S) (hV : WS P N S) {w q n : Nat} {y3 : Int32} {y4 : Int64} (hq : q < P) (J : Nat → Nat → Int64) :
    b_X1_heirOf_8 a (n + 1) (nI w) y3 y4 (nI q) (jw σx J) = if cand L S q then (onr (sR (jw σx J) 44 2) (some (nI q, jw σx J)) (fun b18 => @chk (okRule (jw σx J) b18) (dec_okRule (jw σx J) b18) _ ((f_X1_sumFor a (nI w) (nI q) (jw σx J)).bind (fun r21 => (if (lg_cmp r21.1 y4) ≤ 0 then b_X1_heirOf_8 a n (nI w) y3 y4 (nI (q + 1)) r21.2 else b_X1_heirOf_8 a n (nI w) (nI q) r21.1 (nI (q + 1)) r21.2))))) else b_X1_heirOf_8 a n (nI w) y3 y4 (nI (q + 1)) (jw σx J) := by
  have hW' := hW
  obtain ⟨⟨hK5, hP4, hN6, _⟩, hW2, hW3, hW4⟩ := hW
  have e3 : sI (jw σx J) 23 3 = nI P := hL.1.2.1
  have eh : sI (jw σx J) a 5 = nI (S 3 5) := hS.2.2.2.2
  have hc : cntB (hb S q) 6 ≤ 6 := cntB_le _ _
  have h4 := (hW3 q hq).2.2
  conv => lhs; unfold b_X1_heirOf_8 b_X1_heirOf_86
  rw [e3, q_le (by omega) (by omega), if_neg (by omega), eh, x_asleep (σ := jw σx J) (by omega) (hL.2.2.1 q hq).1 (hL.2.2.1 q hq).2.1 (hW3 q hq).1 (hW3 q hq).2.1 (by have := hV.2.2.2.2; omega), bnd, nI_1]
  have h01 := asl_01 (L 2 q) (L 3 q) (S 3 5)
  rw [q_zero (by omega)]
  by_cases ha : asl (L 2 q) (L 3 q) (S 3 5) = 0
  · rw [if_pos ha, x_load (σ := jw σx J) hS (hV.hs hP4) (by omega), bnd, x_handsOf (σ := jw σx J) hL hP4 hq, bnd, q_le (by omega) (by omega)]
    by_cases hb : cntB (hb S q) 6 < L 4 q
    · rw [if_neg (by omega), if_pos (by simp [cand, ha, hb])]
    · rw [if_pos (by omega), if_neg (by simp [cand, hb])]
  · rw [if_neg ha, if_neg (by simp [cand, ha])]
theorem m_taker_at (hL : LM σm K P N L) (hW : WL K P N L) (hS : SM σm P N S) (hV : WS P N S) {w q n : Nat} {y2 : Int32} {y3 : Int64} (hq : q < P) (J : Nat → Nat → Int64) :
    b_X12_takerOf_7 (n + 1) (nI w) y2 y3 (nI q) (jw σm J) = if cand L S q then (if sI (jw σm J) 1 9 = (-1 : Int32) then (if (lg_cmp 1 y3) ≤ 0 then b_X12_takerOf_7 n (nI w) y2 y3 (nI (q + 1)) (jw σm J) else b_X12_takerOf_7 n (nI w) (nI q) 1 (nI (q + 1)) (jw σm J)) else (f_X12_sumOf (nI q) (nI w) (jw σm J)).bind (fun r16 => (if (lg_cmp r16.1 y3) ≤ 0 then b_X12_takerOf_7 n (nI w) y2 y3 (nI (q + 1)) r16.2 else b_X12_takerOf_7 n (nI w) (nI q) r16.1 (nI (q + 1)) r16.2))) else b_X12_takerOf_7 n (nI w) y2 y3 (nI (q + 1)) (jw σm J) := by
  have hW' := hW
  obtain ⟨⟨hK5, hP4, hN6, _⟩, hW2, hW3, hW4⟩ := hW
  have e3 : sI (jw σm J) 1 3 = nI P := hL.1.2.1
  have eh : sI (jw σm J) 1 5 = nI (S 3 5) := hS.2.2.2.2
  have hc : cntB (hb S q) 6 ≤ 6 := cntB_le _ _
  have h4 := (hW3 q hq).2.2
  conv => lhs; unfold b_X12_takerOf_7 b_X12_takerOf_64 b_X12_takerOf_79
  rw [e3, q_le (by omega) (by omega), if_neg (by omega), eh, m_asleep (σ := jw σm J) (by omega) (hL.2.2.1 q hq).1 (hL.2.2.1 q hq).2.1 (hW3 q hq).1 (hW3 q hq).2.1 (by have := hV.2.2.2.2; omega), bnd, nI_1]
  have h01 := asl_01 (L 2 q) (L 3 q) (S 3 5)
  rw [q_zero (by omega)]
  by_cases ha : asl (L 2 q) (L 3 q) (S 3 5) = 0
  · rw [if_pos ha, m_hasHand (σ := jw σm J) hL hW' hS hV hq, bnd]
    by_cases hb : cntB (hb S q) 6 < L 4 q
    · rw [if_pos hb, if_neg (by decide), if_pos (show cand L S q = true by simp [cand, ha, hb])]
    · rw [if_neg hb, if_pos (by decide), if_neg (show ¬ cand L S q = true by simp [cand, hb])]
  · rw [if_neg ha, if_neg (show ¬ cand L S q = true by simp [cand, ha])]
/-- without a rule the reference keeps whom it has found -/
theorem m_taker_kept (hL : LM σm K P N L) (hW : WL K P N L) (hS : SM σm P N S) (hV : WS P N S) (hn : sI σm 1 9 = -1) {w : Nat} {y2 : Int32} (J : Nat → Nat → Int64) : ∀ (j k n : Nat), k + j = P → j < n → b_X12_takerOf_7 n (nI w) y2 1 (nI k) (jw σm J) = some (y2, jw σm J)
  | 0, k, n + 1, hk, _ => by
    unfold b_X12_takerOf_7
    have e3 : sI (jw σm J) 1 3 = nI P := hL.1.2.1
    have := hW.1.2.1
    rw [e3, q_le (by omega) (by omega), if_pos (by omega)]
  | j + 1, k, n + 1, hk, hj => by
    have hn' : sI (jw σm J) 1 9 = -1 := hn
    rw [m_taker_at hL hW hS hV (by omega) J, m_taker_kept hL hW hS hV hn J j (k + 1) n (by omega) (by omega), if_pos hn', if_pos (show lg_cmp 1 1 ≤ 0 by decide), ite_self]
  | _, _, 0, _, hn => absurd hn (Nat.not_lt_zero _)
theorem heir_none (hLx : LH σx K P N L) (hLm : LM σm K P N L) (hW : WL K P N L) (hSx : SX a σx S) (hSm : SM σm P N S) (hV : WS P N S) (h1 : sR σx 44 2 = none) (h2 : sI σm 1 9 = -1) {w : Nat} (Jx Jm : Nat → Nat → Int64) : ∀ (j k n : Nat), k + j = P → j < n →
    ∃ h, b_X1_heirOf_8 a n (nI w) (-1) 0 (nI k) (jw σx Jx) = some (hI h, jw σx Jx) ∧ b_X12_takerOf_7 n (nI w) (-1) 0 (nI k) (jw σm Jm) = some (hI h, jw σm Jm) ∧ h ≤ P
  | 0, k, n + 1, hk, _ => by
    have e3 : sI (jw σm Jm) 1 3 = nI P := hLm.1.2.1
    have e4 : sI (jw σx Jx) 23 3 = nI P := hLx.1.2.1
    have := hW.1.2.1
    refine ⟨0, ?_, ?_, by omega⟩
    · unfold b_X1_heirOf_8
      rw [e4, q_le (by omega) (by omega), if_pos (by omega), hI_0]
    · unfold b_X12_takerOf_7
      rw [e3, q_le (by omega) (by omega), if_pos (by omega), hI_0]
  | j + 1, k, n + 1, hk, hj => by
    have h1' : sR (jw σx Jx) 44 2 = none := h1
    have h2' : sI (jw σm Jm) 1 9 = -1 := h2
    rw [x_heir_at hLx hW hSx hV (by omega) Jx, m_taker_at hLm hW hSm hV (by omega) Jm, h1', onr_n, if_pos h2']
    by_cases hc : cand L S k = true
    · refine ⟨k + 1, ?_, ?_, by omega⟩
      · rw [if_pos hc, hI_s]
      · rw [if_pos hc, if_neg (by decide), hI_s]
        exact m_taker_kept hLm hW hSm hV h2 Jm j (k + 1) n (by omega) (by omega)
    · obtain ⟨h, g1, g2, g3⟩ := heir_none hLx hLm hW hSx hSm hV h1 h2 Jx Jm j (k + 1) n (by omega) (by omega)
      exact ⟨h, by rw [if_neg hc]; exact g1, by rw [if_neg hc]; exact g2, g3⟩
  | _, _, 0, _, hn => absurd hn (Nat.not_lt_zero _)
theorem heir_rule (hLx : LH σx K P N L) (hLm : LM σm K P N L) (hW : WL K P N L) (hSx : SX a σx S) (hSm : SM σm P N S) (hV : WS P N S) {b r : Nat} {R : List Cls} (h1 : sR σx 44 2 = some b) (h2 : RXc σx b (codesOf R)) (hr : r < 6) (h3 : sI σm 1 9 = nI r) (h4 : RMr σm r R) (hR : WR R) {w : Nat} (hw : w < N) : ∀ (j k n h : Nat) (y : Int64) (Jx Jm : Nat → Nat → Int64), k + j = P → j < n → h ≤ P →
    ∃ h' J1 J2, b_X1_heirOf_8 a n (nI w) (hI h) y (nI k) (jw σx Jx) = some (hI h', jw σx J1) ∧ b_X12_takerOf_7 n (nI w) (hI h) y (nI k) (jw σm Jm) = some (hI h', jw σm J2) ∧ h' ≤ P
  | 0, k, n + 1, h, y, Jx, Jm, hk, _, hh => by
    have e3 : sI (jw σm Jm) 1 3 = nI P := hLm.1.2.1
    have e4 : sI (jw σx Jx) 23 3 = nI P := hLx.1.2.1
    have := hW.1.2.1
    refine ⟨h, Jx, Jm, ?_, ?_, hh⟩
    · unfold b_X1_heirOf_8
      rw [e4, q_le (by omega) (by omega), if_pos (by omega)]
    · unfold b_X12_takerOf_7
      rw [e3, q_le (by omega) (by omega), if_pos (by omega)]
  | j + 1, k, n + 1, h, y, Jx, Jm, hk, hj, hh => by
    have h1' : sR (jw σx Jx) 44 2 = some b := h1
    have h2' : okRule (jw σx Jx) b := h2.1
    have h3' : ¬ sI (jw σm Jm) 1 9 = -1 := by
      show ¬ sI σm 1 9 = -1
      rw [h3]; exact n_neg1 (by omega)
    rw [x_heir_at hLx hW hSx hV (by omega) Jx, m_taker_at hLm hW hSm hV (by omega) Jm, h1', onr_s, chk_t h2', if_neg h3']
    by_cases hc : cand L S k = true
    · rw [if_pos hc, if_pos hc]
      have hca := of_decide_eq_true hc
      obtain ⟨J1, e1⟩ := x_rule (a := a) (w := w) (q := k) (env := env12 L S w k) h1 h2 (fun v J hv => x_word (σ := jw σx J) hLx hW hSx hV hw (by omega) hv) R [] Jx FU hR rfl (by have := FU_big; have := h2.2.2.1; omega)
      obtain ⟨J2, e2⟩ := m_sumOf hLm hW hSm hV hw (show k < P by omega) hca.1 hr h4 h3 hR Jm
      have e1' : f_X1_sumFor a (nI w) (nI k) (jw σx Jx) = some (takeR (env12 L S w k) R, jw σx J1) := e1
      rw [e1', e2, bnd, bnd]
      by_cases hy : (lg_cmp (takeR (env12 L S w k) R) y) ≤ 0
      · rw [if_pos hy, if_pos hy]
        exact heir_rule hLx hLm hW hSx hSm hV h1 h2 hr h3 h4 hR hw j (k + 1) n h y J1 J2 (by omega) (by omega) hh
      · rw [if_neg hy, if_neg hy, ← hI_s k]
        exact heir_rule hLx hLm hW hSx hSm hV h1 h2 hr h3 h4 hR hw j (k + 1) n (k + 1) _ J1 J2 (by omega) (by omega) (by omega)
    · rw [if_neg hc, if_neg hc]
      exact heir_rule hLx hLm hW hSx hSm hV h1 h2 hr h3 h4 hR hw j (k + 1) n h y Jx Jm (by omega) (by omega) hh
  | _, _, 0, _, _, _, _, _, hn, _ => absurd hn (Nat.not_lt_zero _)
theorem heir_eq (hLx : LH σx K P N L) (hLm : LM σm K P N L) (hW : WL K P N L) (hSx : SX a σx S) (hSm : SM σm P N S) (hV : WS P N S) (hR : Rl σx σm) {w : Nat} (hw : w < N) :
    ∃ h J1 J2, f_X1_heirOf a (nI w) σx = some (hI h, jw σx J1) ∧ f_X12_takerOf (nI w) σm = some (hI h, jw σm J2) ∧ h ≤ P := by
  have hP := hW.1.2.1
  have hF := FU_big
  rcases hR with ⟨h1, h2⟩ | ⟨b, r, R, h1, h2, h3, h4, h5, h6⟩
  · obtain ⟨h, g1, g2, g3⟩ := heir_none hLx hLm hW hSx hSm hV h1 h2 (w := w) (sJ σx) (sJ σm) P 0 FU (by omega) (by omega)
    exact ⟨h, _, _, g1, g2, g3⟩
  · obtain ⟨h, J1, J2, g1, g2, g3⟩ := heir_rule hLx hLm hW hSx hSm hV h1 h2 h3 h4 h5 h6 hw P 0 FU 0 0 (sJ σx) (sJ σm) (by omega) (by omega) (by omega)
    exact ⟨h, J1, J2, g1, g2, g3⟩
end HH
end
