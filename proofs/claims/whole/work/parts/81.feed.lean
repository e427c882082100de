/-! ===== pure: feed ===== -/
section
/-- the tape changes, and what is of no account -/
theorem IX.tp {t : Nat} {ow : Nat → Nat} {W : Wd} {Wi : Nat → Option Wd} {RR : List (List Cls)} {T T' : Nat → Nat} {len len' : Nat} {σ σ' : MS} (h : IX t ow W Wi RR T len σ) (hN : sN σ' = sN σ) (hS : sS σ' = sS σ) (hR : ∀ b, b ≠ 44 → sR σ' b = sR σ b) (hr : ∀ b, (21 ≤ b ∧ b ≤ 43) ∨ 56 ≤ b → sI σ' b = sI σ b) (h11 : sI σ' 0 11 = sI σ 0 11) (h1 : sI σ' 1 1 = nI len') (h2 : ∀ i, i < len' → sI σ' 2 i = nI (T' i)) : IX t ow W Wi RR T' len' σ' := by
  obtain ⟨⟨a1, a2⟩, ⟨a3, a4⟩, ⟨a5, a6⟩, a7, a8⟩ := h
  have hN' : sN σ ≤ sN σ' := by omega
  have hS' : ∀ p, p < sN σ → sS σ' p = sS σ p := fun p _ => by rw [hS]
  refine ⟨⟨by omega, by omega⟩, ⟨h1, h2⟩, ⟨by rw [h11]; exact a5, fun r hr2 => ?_⟩, ?_, fun k hk => ⟨fun hw => ?_, fun V hV => ?_⟩⟩
  · obtain ⟨b, k1, k2, k3, k4, k5⟩ := a6 r hr2
    obtain ⟨⟨q1, q2, q3⟩, q4, q5, q6⟩ := k3
    exact ⟨b, by rw [hR 21 (by decide)]; exact k1, k2, ⟨⟨by omega, by rw [hS]; exact q2, by rw [hS]; exact q3⟩, by rw [hS]; exact q4, q5, by rw [hr (b + 1) (by omega)]; exact q6⟩, k4, k5⟩
  · exact a7.fr (fun b q1 q2 => hr b (by omega)) (hR _ (by decide)) hN' hS' (fun p q1 _ _ _ => hr p (by omega)) (fun _ _ => rfl)
  · rw [hR 43 (by decide)]; exact (a8 k hk).1 hw
  · obtain ⟨b, k1, k2, k3, k4, k5⟩ := (a8 k hk).2 V hV
    exact ⟨b, by rw [hR 43 (by decide)]; exact k1, k2, k3.fr hN' hS', k4, k5.fr (fun b q1 q2 => hr b (by omega)) (hR _ (by omega)) hN' hS' (fun p q1 _ _ _ => hr p (by omega)) (fun _ _ => rfl)⟩
theorem IM.tp {W : Wd} {Wi : Nat → Option Wd} {RR : List (List Cls)} {T T' : Nat → Nat} {len len' : Nat} {σ σ' : MS} (h : IM W Wi RR T len σ) (hO : OKW W Wi RR T len) (h0 : ∀ j, (j = 28 ∨ j = 33 ∨ j = 38 ∨ j = 51) → sI σ' 0 j = sI σ 0 j) (hr : ∀ b, (1 ≤ b ∧ b ≤ 17) ∨ (29 ≤ b ∧ b ≤ 34) ∨ b = 38 ∨ b = 45 ∨ b = 46 ∨ b = 47 → sI σ' b = sI σ b) (h1 : sI σ' 0 29 = nI len') (h2 : ∀ i, i < len' → sI σ' 28 i = bI (T' i)) : IM W Wi RR T' len' σ' := by
  obtain ⟨⟨a1, a2⟩, ⟨a3, a4, a5⟩, a6, a7⟩ := h
  refine ⟨⟨h1, h2⟩, ⟨by rw [h0 33 (by decide)]; exact a3, by rw [h0 38 (by decide)]; exact a4, fun r hr2 => (a5 r hr2).fr (fun b q1 q2 => hr b (by omega))⟩, ?_, fun k hk => ⟨fun hw => by rw [hr 46 (by omega)]; exact (a7 k hk).1 hw, fun V hV => ?_⟩⟩
  · exact a6.cg hO.2.2.1.1 (h0 28 (by decide)) (h0 51 (by decide)) (fun j _ => by rw [hr 1 (by decide)]) (fun j _ => by rw [hr 4 (by decide)]) (fun b j hb _ => by rw [hr b (by omega)]) (fun b j hb _ => by rw [hr b (by omega)]) (fun j _ => by rw [hr 15 (by decide)]) (by rw [hr 17 (by decide)]) (fun j _ => by rw [hr 38 (by decide)])
  · obtain ⟨k1, k2⟩ := (a7 k hk).2 V hV
    exact ⟨by rw [hr 46 (by decide)]; exact k1, k2.img (hO.2.2.2 k V hk hV).1 (by rw [hr 47 (by decide)]) (fun j _ _ => by rw [hr 45 (by decide)])⟩
/-- a byte of a number -/
def bb (y : Int32) (s : Nat) : Nat := y.toBitVec.toNat / 2 ^ s % 256
theorem bb_lt (y : Int32) (s : Nat) : bb y s < 256 := Nat.mod_lt _ (by decide)
theorem b_low (u : Int32) : u &&& (255 : Int32) = nI (u.toBitVec.toNat % 256) := by
  apply Int32.toBitVec_inj.mp
  apply BitVec.eq_of_toNat_eq
  rw [Int32.toBitVec_and, BitVec.toNat_and, show (255 : Int32).toBitVec.toNat = 2 ^ 8 - 1 from by decide, Nat.and_two_pow_sub_one_eq_mod]
  show _ = (BitVec.ofNat 32 (u.toBitVec.toNat % 256)).toNat
  rw [BitVec.toNat_ofNat, Nat.mod_eq_of_lt (b := 2 ^ 32) (by omega)]
theorem bI_toInt {b : Nat} (h : b < 256) : (bI b).toInt = if b < 128 then (b : Int) else (b : Int) - 256 := by
  unfold bI
  by_cases c : b < 128
  · rw [if_pos c, if_pos c, nI_toInt (by omega)]
  · rw [if_neg c, if_neg c]
    exact pk_sub_toInt (a := b) (b := 256) (by omega) (by omega)
theorem b_sg (y : Int32) (k : Nat) (hk : k = 0 ∨ k = 8 ∨ k = 16 ∨ k = 24) {z : Int32} (hz : z.toInt = y.toInt >>> k) : vp_nar .byte z.toInt8.toInt32 = bI (bb y k) := by
  rw [pk_vb]
  apply Int32.toInt_inj.mp
  rw [bI_toInt (bb_lt y k), Int8.toInt_toInt32, Int32.toInt_toInt8, hz, Int.shiftRight_eq_div_pow, Int.bmod_def]
  have e : y.toInt = (y.toBitVec.toNat : Int) ∨ y.toInt = (y.toBitVec.toNat : Int) - 4294967296 := by
    show y.toBitVec.toInt = _ ∨ y.toBitVec.toInt = _
    rw [BitVec.toInt_eq_toNat_cond]
    split
    · exact Or.inl rfl
    · exact Or.inr rfl
  have hl : y.toBitVec.toNat < 4294967296 := y.toBitVec.isLt
  unfold bb
  generalize y.toBitVec.toNat = n at e hl ⊢
  generalize y.toInt = m at e ⊢
  rcases hk with rfl | rfl | rfl | rfl
  · split <;> split <;> omega
  · split <;> split <;> omega
  · split <;> split <;> omega
  · split <;> split <;> omega
theorem x_put1 {s l n : Nat} {y : Int32} {σ : MS} (hs : s = 0 ∨ s = 8 ∨ s = 16 ∨ s = 24) (hl : l < 400) (h : sI σ 1 1 = nI l) : b_X9_put_3 (n + 1) y (nI s) σ = b_X9_put_3 n y (nI s + (-8 : Int32)) (wI (wI σ 2 l (nI (bb y s))) 1 1 (nI (l + 1))) := by
  have e : ((y.toUInt32 >>> ((nI s).toUInt32 &&& Int32.toUInt32 31)).toInt32 &&& (255 : Int32)) = nI (bb y s) := by
    rw [b_low]
    rcases hs with rfl | rfl | rfl | rfl
    · rw [pk_ushr y (nI 0) 0 (by decide)]; rfl
    · rw [pk_ushr y (nI 8) 8 (by decide)]; rfl
    · rw [pk_ushr y (nI 16) 16 (by decide)]; rfl
    · rw [pk_ushr y (nI 24) 24 (by decide)]; rfl
  have e1 : sI (wI σ 2 l (nI (bb y s))) 1 1 = nI l := by rw [sI_wIn _ _ _ _ (by decide)]; exact h
  conv => lhs; unfold b_X9_put_3 b_X9_put_43
  rw [if_neg (nI_pos (by omega)), h, q_ln_le (by decide) (by omega), if_neg (by omega), chk_t (in_n hl (by decide)), ix_n (by omega), e, e1, nI_1]
theorem m_put1 {s l n : Nat} {y : Int32} {σ : MS} (hs : s = 0 ∨ s = 8 ∨ s = 16 ∨ s = 24) (hl : l < 400) (h : sI σ 0 29 = nI l) : b_X12_put_3 (n + 1) y (nI s) σ = b_X12_put_3 n y (nI s + (-8 : Int32)) (wI (wI σ 28 l (bI (bb y s))) 0 29 (nI (l + 1))) := by
  have e : vp_nar .byte (y >>> (nI s &&& 31)).toInt8.toInt32 = bI (bb y s) := by
    rcases hs with rfl | rfl | rfl | rfl
    · exact b_sg y 0 (by decide) (pk_shr y (nI 0 &&& 31) 0 (by decide))
    · exact b_sg y 8 (by decide) (pk_shr y (nI 8 &&& 31) 8 (by decide))
    · exact b_sg y 16 (by decide) (pk_shr y (nI 16 &&& 31) 16 (by decide))
    · exact b_sg y 24 (by decide) (pk_shr y (nI 24 &&& 31) 24 (by decide))
  have e1 : sI (wI σ 28 l (bI (bb y s))) 0 29 = nI l := by rw [sI_wIn _ _ _ _ (by decide)]; exact h
  conv => lhs; unfold b_X12_put_3 b_X12_put_30
  rw [if_neg (nI_pos (by omega)), h, chk_t (in_n hl (by decide)), ix_n (by omega), e, e1, nI_1]
/-- four bytes more -/
def ext4 (T : Nat → Nat) (l : Nat) (y : Int32) : Nat → Nat := fun i => if i < l then T i else bb y (24 - 8 * (i - l))
theorem ext4_o (T : Nat → Nat) {l : Nat} (y : Int32) {i : Nat} (h : i < l) : ext4 T l y i = T i := if_pos h
theorem ext4_n (T : Nat → Nat) (l : Nat) (y : Int32) (j : Nat) : ext4 T l y (l + j) = bb y (24 - 8 * j) := by
  unfold ext4; rw [if_neg (by omega), Nat.add_sub_cancel_left]
theorem ext4_lt {T : Nat → Nat} {l : Nat} (y : Int32) (h : ∀ i, i < l → T i < 256) : ∀ i, i < l + 4 → ext4 T l y i < 256 := fun i hi => by
  unfold ext4
  split
  · exact h i (by assumption)
  · exact bb_lt _ _
def TX (l : Nat) (T : Nat → Nat) (σ : MS) : Prop := sI σ 1 1 = nI l ∧ ∀ i, i < l → sI σ 2 i = nI (T i)
def TM (l : Nat) (T : Nat → Nat) (σ : MS) : Prop := sI σ 0 29 = nI l ∧ ∀ i, i < l → sI σ 28 i = bI (T i)
theorem TX.one {l v : Nat} {T : Nat → Nat} {σ : MS} (h : TX l T σ) (hv : T l = v) : TX (l + 1) T (wI (wI σ 2 l (nI v)) 1 1 (nI (l + 1))) := by
  refine ⟨sI_wIs _ _ _ _, fun i hi => ?_⟩
  rw [sI_wIn _ _ _ _ (by decide)]
  by_cases e : i = l
  · subst e; rw [sI_wIs, hv]
  · rw [sI_wIk _ _ _ _ e]; exact h.2 i (by omega)
theorem TM.one {l v : Nat} {T : Nat → Nat} {σ : MS} (h : TM l T σ) (hv : T l = v) : TM (l + 1) T (wI (wI σ 28 l (bI v)) 0 29 (nI (l + 1))) := by
  refine ⟨sI_wIs _ _ _ _, fun i hi => ?_⟩
  rw [sI_wIn _ _ _ _ (by decide)]
  by_cases e : i = l
  · subst e; rw [sI_wIs, hv]
  · rw [sI_wIk _ _ _ _ e]; exact h.2 i (by omega)
theorem x_put {l : Nat} {T : Nat → Nat} {σ : MS} (y : Int32) (h : TX l T σ) (hl : l + 4 ≤ 400) : ∃ σ', f_X9_put y σ = some σ' ∧ TX (l + 4) (ext4 T l y) σ' ∧ Sm σ σ' ∧ ∀ b, b ≠ 1 → b ≠ 2 → sI σ' b = sI σ b := by
  obtain ⟨m, hm⟩ : ∃ m, FU = m + 1 + 1 + 1 + 1 + 1 := ⟨FU - 5, by have := FU_big; omega⟩
  have h0 : TX l (ext4 T l y) σ := ⟨h.1, fun i hi => by rw [ext4_o _ _ hi]; exact h.2 i hi⟩
  have h1 := h0.one (v := bb y 24) (ext4_n T l y 0)
  have h2 := h1.one (v := bb y 16) (ext4_n T l y 1)
  have h3 := h2.one (v := bb y 8) (ext4_n T l y 2)
  have h4 := h3.one (v := bb y 0) (ext4_n T l y 3)
  refine ⟨_, ?_, h4, ⟨rfl, rfl, rfl⟩, fun b q1 q2 => by rw [sI_wIn _ _ _ _ q1, sI_wIn _ _ _ _ q2, sI_wIn _ _ _ _ q1, sI_wIn _ _ _ _ q2, sI_wIn _ _ _ _ q1, sI_wIn _ _ _ _ q2, sI_wIn _ _ _ _ q1, sI_wIn _ _ _ _ q2]⟩
  unfold f_X9_put b_X9_put_0
  rw [hm, show (24 : Int32) = nI 24 from rfl, x_put1 (by decide) (by omega) h0.1, show nI 24 + (-8 : Int32) = nI 16 from by decide, x_put1 (by decide) (by omega) h1.1, show nI 16 + (-8 : Int32) = nI 8 from by decide, x_put1 (by decide) (by omega) h2.1, show nI 8 + (-8 : Int32) = nI 0 from by decide, x_put1 (by decide) (by omega) h3.1]
  unfold b_X9_put_3
  rw [if_pos (by decide)]
theorem m_put {l : Nat} {T : Nat → Nat} {σ : MS} (y : Int32) (h : TM l T σ) (hl : l + 4 ≤ 400) : ∃ σ', f_X12_put y σ = some σ' ∧ TM (l + 4) (ext4 T l y) σ' ∧ Sm σ σ' ∧ (∀ b, b ≠ 0 → b ≠ 28 → sI σ' b = sI σ b) ∧ (∀ j, j ≠ 29 → sI σ' 0 j = sI σ 0 j) := by
  obtain ⟨m, hm⟩ : ∃ m, FU = m + 1 + 1 + 1 + 1 + 1 := ⟨FU - 5, by have := FU_big; omega⟩
  have h0 : TM l (ext4 T l y) σ := ⟨h.1, fun i hi => by rw [ext4_o _ _ hi]; exact h.2 i hi⟩
  have h1 := h0.one (v := bb y 24) (ext4_n T l y 0)
  have h2 := h1.one (v := bb y 16) (ext4_n T l y 1)
  have h3 := h2.one (v := bb y 8) (ext4_n T l y 2)
  have h4 := h3.one (v := bb y 0) (ext4_n T l y 3)
  refine ⟨_, ?_, h4, ⟨rfl, rfl, rfl⟩, fun b q1 q2 => by rw [sI_wIn _ _ _ _ q1, sI_wIn _ _ _ _ q2, sI_wIn _ _ _ _ q1, sI_wIn _ _ _ _ q2, sI_wIn _ _ _ _ q1, sI_wIn _ _ _ _ q2, sI_wIn _ _ _ _ q1, sI_wIn _ _ _ _ q2], fun j hj => by rw [sI_wIk _ _ _ _ hj, sI_wIn _ _ _ _ (by decide), sI_wIk _ _ _ _ hj, sI_wIn _ _ _ _ (by decide), sI_wIk _ _ _ _ hj, sI_wIn _ _ _ _ (by decide), sI_wIk _ _ _ _ hj, sI_wIn _ _ _ _ (by decide)]⟩
  unfold f_X12_put b_X12_put_0
  rw [hm, show (24 : Int32) = nI 24 from rfl, m_put1 (by decide) (by omega) h0.1, show nI 24 + (-8 : Int32) = nI 16 from by decide, m_put1 (by decide) (by omega) h1.1, show nI 16 + (-8 : Int32) = nI 8 from by decide, m_put1 (by decide) (by omega) h2.1, show nI 8 + (-8 : Int32) = nI 0 from by decide, m_put1 (by decide) (by omega) h3.1]
  unfold b_X12_put_3
  rw [if_pos (by decide)]
theorem s_0 : StpK 0 := fun t a σx σm _ hI0 => by
  have hI1 := hI0
  obtain ⟨ow, W, Wi, RR, T, len, h1, h2, h3⟩ := hI0
  have hl := h3.1.1
  show ∃ r σx' σm', f_X11_feed (a 1) (a 2) (a 3) (a 4) (a 5) σx = some (r, σx') ∧ f_X12_feed (a 1) (a 2) (a 3) (a 4) (a 5) σm = some (r, σm') ∧ Inv (t + 1) σx' σm'
  unfold f_X11_feed b_X11_feed_0 f_X9_hasRoom b_X9_hasRoom_0 b_X9_hasRoom_17 f_X12_feed b_X12_feed_0
  rw [h1.2.1.1, h2.1.1, nl_add, q_ln_lt (by decide) (by omega), q_nl_le (by decide) (by omega)]
  by_cases hh : len + 20 ≤ 400
  · rw [if_neg (by omega), if_pos hh, chk_t (Or.inr rfl), bnd, if_neg one_ne]
    obtain ⟨x1, a1, b1, c1, d1⟩ := x_put (a 1) (show TX len T σx from h1.2.1) (by omega)
    obtain ⟨x2, a2, b2, c2, d2⟩ := x_put (a 2) b1 (by omega)
    obtain ⟨x3, a3, b3, c3, d3⟩ := x_put (a 3) b2 (by omega)
    obtain ⟨x4, a4, b4, c4, d4⟩ := x_put (a 4) b3 (by omega)
    obtain ⟨x5, a5, b5, c5, d5⟩ := x_put (a 5) b4 (by omega)
    obtain ⟨m1, e1, f1, g1, k1, l1⟩ := m_put (a 1) (show TM len T σm from h2.1) (by omega)
    obtain ⟨m2, e2, f2, g2, k2, l2⟩ := m_put (a 2) f1 (by omega)
    obtain ⟨m3, e3, f3, g3, k3, l3⟩ := m_put (a 3) f2 (by omega)
    obtain ⟨m4, e4, f4, g4, k4, l4⟩ := m_put (a 4) f3 (by omega)
    obtain ⟨m5, e5, f5, g5, k5, l5⟩ := m_put (a 5) f4 (by omega)
    have cs := (((c1.trans c2).trans c3).trans c4).trans c5
    have ds : ∀ b, b ≠ 1 → b ≠ 2 → sI x5 b = sI σx b := fun b q1 q2 => by rw [d5 b q1 q2, d4 b q1 q2, d3 b q1 q2, d2 b q1 q2, d1 b q1 q2]
    have ks : ∀ b, b ≠ 0 → b ≠ 28 → sI m5 b = sI σm b := fun b q1 q2 => by rw [k5 b q1 q2, k4 b q1 q2, k3 b q1 q2, k2 b q1 q2, k1 b q1 q2]
    have ls : ∀ j, j ≠ 29 → sI m5 0 j = sI σm 0 j := fun j hj => by rw [l5 j hj, l4 j hj, l3 j hj, l2 j hj, l1 j hj]
    rw [a1, bnd, a2, bnd, a3, bnd, a4, bnd, a5, bnd, e1, bnd, e2, bnd, e3, bnd, e4, bnd, e5, bnd, b5.1, f5.1]
    refine ⟨_, x5, m5, rfl, rfl, Inv.up (t := t) ⟨ow, W, Wi, RR, _, _, (h1.tp cs.1 cs.2.1 (fun b _ => by rw [cs.2.2]) (fun b hb => ds b (by omega) (by omega)) (by rw [ds 0 (by decide) (by decide)]) b5.1 b5.2), h2.tp h3 (fun j hj => ls j (by omega)) (fun b hb => ks b (by omega) (by omega)) f5.1 f5.2, ⟨by omega, ext4_lt _ (ext4_lt _ (ext4_lt _ (ext4_lt _ (ext4_lt _ h3.1.2))))⟩, h3.2⟩ (by omega)⟩
  · rw [if_pos (by omega), if_neg hh, chk_t (Or.inl rfl), bnd, if_pos rfl]
    exact ⟨-1, σx, σm, rfl, rfl, hI1.up (by omega)⟩
end
