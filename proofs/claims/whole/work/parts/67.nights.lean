/-! ===== pure: nights ===== -/
section
theorem l_mask {n : Nat} (hn : n < 2 ^ 64) : lN n &&& lN 2147483647 = lN (n % 2147483648) := by
  apply Int64.toBitVec_inj.mp
  apply BitVec.eq_of_toNat_eq
  rw [Int64.toBitVec_and, BitVec.toNat_and]
  show (BitVec.ofNat 64 n).toNat &&& (BitVec.ofNat 64 2147483647).toNat = (BitVec.ofNat 64 (n % 2147483648)).toNat
  rw [BitVec.toNat_ofNat, BitVec.toNat_ofNat, BitVec.toNat_ofNat, Nat.mod_eq_of_lt hn, Nat.mod_eq_of_lt (show 2147483647 < 2 ^ 64 by decide), Nat.mod_eq_of_lt (show n % 2147483648 < 2 ^ 64 by omega), show (2147483647 : Nat) = 2 ^ 31 - 1 by decide, Nat.and_two_pow_sub_one_eq_mod]
def dr (x : Nat) : Nat := (x * 1103515245 + 12345) % 2147483648
theorem dr_lt (x : Nat) : dr x < 2 ^ 31 := by unfold dr; omega
theorem x_drv {x : Nat} (hx : x < 2 ^ 31) : (((nI x).toInt64 * (1103515245 : Int64) + (12345 : Int64)) &&& (2147483647 : Int64)).toInt32 = nI (dr x) := by
  rw [nI_l hx, show (1103515245 : Int64) = lN 1103515245 from rfl, show (12345 : Int64) = lN 12345 from rfl, show (2147483647 : Int64) = lN 2147483647 from rfl, lN_mul, lN_add, l_mask (by omega), lN_i]
  rfl
theorem m_drv {x : Nat} (hx : x < 2 ^ 31) : (((nI x).toInt64 * (1103515245 : Int64) + (12345 : Int64)) - ((nI x).toInt64 * (1103515245 : Int64) + (12345 : Int64)) / (2147483648 : Int64) * (2147483648 : Int64)).toInt32 = nI (dr x) := by
  rw [nI_l hx, show (1103515245 : Int64) = lN 1103515245 from rfl, show (12345 : Int64) = lN 12345 from rfl, show (2147483648 : Int64) = lN 2147483648 from rfl, lN_mul, lN_add, pk_lRem (by omega) (by decide) (by decide), lN_i]
  rfl
theorem x_draw {σ : MS} {x : Nat} (hx : x < 2 ^ 31) (h : sI σ 0 12 = nI x) : f_X11_draw σ = some (nI (dr x / 65536), wI σ 0 12 (nI (dr x))) := by
  unfold f_X11_draw b_X11_draw_0
  rw [h, x_drv hx, sI_wIs, nl_div (dr_lt x) (by decide) (by decide)]
theorem m_draws {σ : MS} {x k : Nat} (hx : x < 2 ^ 31) (hk : 0 < k) (hk2 : k < 1000) (h : sI σ 1 8 = nI x) : f_X12_draws (nI k) σ = some (nI (dr x / 65536 % k), wI σ 1 8 (nI (dr x))) := by
  unfold f_X12_draws b_X12_draws_0 b_X12_draws_28
  have hd := dr_lt x
  rw [h, m_drv hx, chk_t (nI_ne0 hk (by omega)), sI_wIs, nl_div hd (by decide) (by decide), pk_rem (by omega) hk (by omega)]
theorem Both.dw {σx σm : MS} {K P N : Nat} {L S : Row2} (h : Both 46 σx σm K P N L S) (hB : RlB σx) (u v : Int32) : Both 46 (wI σx 0 12 u) (wI σm 1 8 v) K P N L S := by
  obtain ⟨h1, h2, h3, h4, h5, h6⟩ := h
  have hnx : ∀ b, b ≠ 0 → sI (wI σx 0 12 u) b = sI σx b := fun b hb => sI_wIn _ _ _ _ hb
  have hn : ∀ b, b ≠ 1 → sI (wI σm 1 8 v) b = sI σm b := fun b hb => sI_wIn _ _ _ _ hb
  have hk : ∀ j, j ≠ 8 → sI (wI σm 1 8 v) 1 j = sI σm 1 j := fun j hj => sI_wIk _ _ _ _ hj
  refine ⟨h1.fr (fun b hb => hnx b (by omega)), ?_, h3.fr (fun b q1 q2 => hnx b (by omega)), ?_, h5, ?_⟩
  · obtain ⟨⟨a1, a2, a3, a4⟩, a5, a6, a7⟩ := h2
    exact ⟨⟨by rw [hk 2 (by decide)]; exact a1, by rw [hk 3 (by decide)]; exact a2, by rw [hk 4 (by decide)]; exact a3, by rw [hk 0 (by decide)]; exact a4⟩, fun q hq => by rw [hn 2 (by decide), hn 3 (by decide)]; exact a5 q hq, fun q hq => by rw [hn 5 (by decide), hn 6 (by decide), hn 7 (by decide)]; exact a6 q hq, fun q hq => by rw [hn 8 (by decide), hn 11 (by decide)]; exact a7 q hq⟩
  · obtain ⟨a1, a2, a3, a4, a5⟩ := h4
    exact ⟨fun q hq => by rw [hn 9 (by decide), hn 10 (by decide)]; exact a1 q hq, fun q hq => by rw [hn 4 (by decide)]; exact a2 q hq, by rw [hk 6 (by decide)]; exact a3, by rw [hk 1 (by decide)]; exact a4, by rw [hk 5 (by decide)]; exact a5⟩
  · rcases h6 with ⟨q1, q2⟩ | ⟨b, r, R, q1, q2, q3, q4, q5, q6⟩
    · exact Or.inl ⟨q1, by rw [hk 9 (by decide)]; exact q2⟩
    · have := hB b q1
      exact Or.inr ⟨b, r, R, q1, ⟨q2.1, q2.2.1, q2.2.2.1, by rw [hnx (b + 1) (by omega)]; exact q2.2.2.2⟩, q3, by rw [hk 9 (by decide)]; exact q4, q5.fr (fun b q1 q2 => hn b (by omega)), q6⟩
theorem ScX.dw (σ : MS) (u : Int32) : ScX σ (wI σ 0 12 u) := ⟨rfl, rfl, fun _ _ => rfl, fun b hb => sI_wIn _ _ _ _ (by omega), sI_wIk _ _ _ _ (by decide)⟩
theorem F2.dw (σ : MS) (u : Int32) : F2 σ (wI σ 1 8 u) := ⟨⟨rfl, rfl, rfl⟩, fun b h1 _ _ _ => sI_wIn _ _ _ _ h1⟩
/-! the work that is drawn -/
theorem x_lg_skip {a : Nat} {σ : MS} {S : Row2} (h : SX a σ S) {l : Int32} : ∀ (j k n : Nat), k + j = 6 → j < n → (∀ w, k ≤ w → w < 6 → S 0 w = 0) → b_X8_layGoing_4 a n l (nI k) σ = some σ
  | 0, k, n + 1, hk, _, _ => by
    unfold b_X8_layGoing_4
    rw [q_ln_le (by decide) (by omega), if_pos (by omega)]
  | j + 1, k, n + 1, hk, hn, hz => by
    unfold b_X8_layGoing_4 b_X8_layGoing_33
    rw [q_ln_le (by decide) (by omega), if_neg (by omega), chk_t (in_n (show k < 6 by omega) (by decide)), ix_n (by omega), (h.1 k (by omega)).1, hz k (by omega) (by omega), hI_0, if_pos rfl, nI_1]
    exact x_lg_skip h j (k + 1) n (by omega) (by omega) (fun w q1 q2 => hz w (by omega) q2)
  | _, _, 0, _, hn, _ => absurd hn (Nat.not_lt_zero _)
def ng (d : Nat) : Int32 := nI 0 - nI d
theorem ng_0 : ng 0 = 0 := by decide
theorem ng_s (d : Nat) : ng d - 1 = ng (d + 1) := by
  unfold ng
  rw [← nI_1 d, Int32.sub_sub]
theorem ng_ne {d : Nat} (h : 0 < d) (h2 : d < 2 ^ 30) : ¬ ng d = 0 := fun e => by
  have := congrArg Int32.toInt e
  unfold ng at this
  rw [pk_sub_toInt (by decide) h2] at this
  have hz : (0 : Int32).toInt = 0 := by decide
  omega
/-- behind the drop the reference's loop drops nothing more -/
theorem m_dd_rest {σ : MS} {P N : Nat} {S : Row2} (h : SM σ P N S) (h4 : sI σ 1 4 = nI N) (hN : N ≤ 6) (hs : ∀ w, w < 6 → S 0 w < 2 ^ 31) : ∀ (j k n d : Nat), k + j = N → j < n → 0 < d → d + j < 100 → b_X12_dropsDrawn_14 n (ng d) (nI k) σ = some σ
  | 0, k, n + 1, d, hk, _, _, _ => by
    unfold b_X12_dropsDrawn_14
    rw [h4, q_le (by omega) (by omega), if_pos (by omega)]
  | j + 1, k, n + 1, d, hk, hn, hd, hd2 => by
    have i1 := m_dd_rest h h4 hN hs j (k + 1) n d (by omega) (by omega) hd (by omega)
    have i2 := m_dd_rest h h4 hN hs j (k + 1) n (d + 1) (by omega) (by omega) (by omega) (by omega)
    unfold b_X12_dropsDrawn_14 b_X12_dropsDrawn_39 b_X12_dropsDrawn_53 b_X12_dropsDrawn_63
    rw [h4, q_le (by omega) (by omega), if_neg (by omega), chk_t (in_n (show k < 6 by omega) (by decide)), ix_n (by omega), (h.1 k (by omega)).1, q_none (hs k (by omega)), nI_1, if_pos (show (0 : Int32) = 0 from rfl), if_neg one_ne, if_neg (ng_ne hd (by omega)), Int32.sub_zero, ng_s, if_pos (show (0 : Int32) = 0 from rfl), if_neg one_ne, i1, i2, ite_self]
  | _, _, 0, _, _, hn, _, _ => absurd hn (Nat.not_lt_zero _)
theorem lay_eq {a : Nat} {K P N : Nat} {L : Row2} (hW : WL K P N L) (ha : a = 35 ∨ a = 46) {σx σm : MS} {S : Row2} (h : Both a σx σm K P N L S) : ∀ (j k n f l : Nat), k + j = N → j + 7 < n → j < f → l < 100 →
    ∃ σx' σm' S', b_X8_layGoing_4 a n (nI l) (nI k) σx = some σx' ∧ b_X12_dropsDrawn_14 f (nI l) (nI k) σm = some σm' ∧ SX a σx' S' ∧ SM σm' P N S' ∧ WS P N S' ∧ FX a σx σx' ∧ FM σm σm' ∧ S' 3 5 = S 3 5
  | 0, k, n, f + 1, l, hk, hn, _, hl => by
    have hN := hW.1.2.2.1
    refine ⟨σx, σm, S, ?_, ?_, h.2.2.1, h.2.2.2.1, h.2.2.2.2.1, FX.refl _ _, FM.refl _, rfl⟩
    · exact x_lg_skip h.2.2.1 (6 - k) k n (by omega) (by omega) (fun w q1 q2 => (h.2.2.2.2.1.1 w q2).2 (by omega))
    · unfold b_X12_dropsDrawn_14
      rw [h.2.1.1.2.2.1, q_le (by omega) (by omega), if_pos (by omega)]
  | j + 1, k, n + 1, f + 1, l, hk, hn, hf, hl => by
    have hN := hW.1.2.2.1
    have hP := hW.1.2.1
    have hV := h.2.2.2.2.1
    have ex := (h.2.2.1.1 k (by omega)).1
    have em := (h.2.2.2.1.1 k (by omega)).1
    have hb := (hV.1 k (by omega)).1
    have bk : inb (nI k) 6 := in_n (by omega) (by decide)
    have eX : b_X8_layGoing_4 a (n + 1) (nI l) (nI k) σx = if S 0 k = 0 then b_X8_layGoing_4 a n (nI l) (nI (k + 1)) σx else (if l = 0 then (f_X8_lay a (nI k) σx).bind (fun r10 => some r10) else b_X8_layGoing_4 a n (nI l + -1) (nI (k + 1)) σx) := by
      conv => lhs; unfold b_X8_layGoing_4 b_X8_layGoing_33
      rw [q_ln_le (by decide) (by omega), if_neg (by omega), chk_t bk, ix_n (by omega), ex, q_none (by omega), q_zero (by omega), nI_1]
    have eM : b_X12_dropsDrawn_14 (f + 1) (nI l) (nI k) σm = if S 0 k = 0 then b_X12_dropsDrawn_14 f (nI l) (nI (k + 1)) σm else (if l = 0 then (f_X12_drops (nI k) σm).bind (fun r14 => b_X12_dropsDrawn_14 f (nI l - 1) (nI (k + 1)) r14) else b_X12_dropsDrawn_14 f (nI l - 1) (nI (k + 1)) σm) := by
      conv => lhs; unfold b_X12_dropsDrawn_14 b_X12_dropsDrawn_39 b_X12_dropsDrawn_53 b_X12_dropsDrawn_63
      rw [h.2.1.1.2.2.1, q_le (by omega) (by omega), if_neg (by omega), chk_t bk, ix_n (by omega), em, q_none (by omega), nI_1, if_pos (show (0 : Int32) = 0 from rfl), if_neg one_ne, if_pos (show (0 : Int32) = 0 from rfl), if_neg one_ne, Int32.sub_zero, q_zero (by omega)]
      simp only [if_neg one_ne]
    rw [eX, eM]
    by_cases h0 : S 0 k = 0
    · rw [if_pos h0, if_pos h0]
      exact lay_eq hW ha h j (k + 1) n f l (by omega) (by omega) (by omega) hl
    · rw [if_neg h0, if_neg h0]
      by_cases hl0 : l = 0
      · obtain ⟨σx1, u1, u2, u3⟩ := x_lay h.2.2.1 (show k < 6 by omega) hV.2.2.1.1
        obtain ⟨σm1, v1, v2, v3⟩ := m_drops h.2.2.2.1 (show k < 6 by omega) hV.2.2.1.1
        subst hl0
        refine ⟨σx1, σm1, aLay S k, by rw [if_pos rfl, u1]; rfl, ?_, u2, v2, hV.lay (show k < 6 by omega), u3, v3, aLay_35 S k⟩
        rw [if_pos rfl, v1, bnd, show nI 0 - 1 = ng 1 from rfl]
        exact m_dd_rest v2 (by rw [v3.2.2 4 (by decide) (by decide) (by decide)]; exact h.2.1.1.2.2.1) hN ((hV.lay (show k < 6 by omega)).hs hP) j (k + 1) f 1 (by omega) (by omega) (by decide) (by omega)
      · rw [if_neg hl0, if_neg hl0]
        obtain ⟨l', rfl⟩ : ∃ l', l = l' + 1 := ⟨l - 1, by omega⟩
        rw [pk_m1, nI_pred]
        exact lay_eq hW ha h j (k + 1) n f l' (by omega) (by omega) (by omega) (by omega)
  | _, _, 0, _, _, _, hn, _, _ => absurd hn (Nat.not_lt_zero _)
  | _, _, _, 0, _, _, _, hn, _ => absurd hn (Nat.not_lt_zero _)
theorem pc_zero : ∀ m, m < 64 → (pc m = 0 ↔ m = 0) := by decide +kernel
section NN
variable {K P N : Nat} {L : Row2}
/-- ahead of an hour -/
theorem drop_eq (hW : WL K P N L) {p x : Nat} (hp : p ≤ 100) (hx : x < 2 ^ 31) {σx σm : MS} {S : Row2} (h : Both 46 σx σm K P N L S) (hB : RlB σx) (ex : sI σx 0 12 = nI x) (em : sI σm 1 8 = nI x) :
    ∃ d x' σx' σm' S', d ≤ 1 ∧ x' < 2 ^ 31 ∧ f_X11_dropByDraw (nI p) σx = some (nI d, σx') ∧ (∀ (kk : Int32 → MS → Option (Int32 × MS)) (o : Nat), (f_X12_draws (100 : Int32) σm).bind (fun r28 => (if nI p ≤ r28.1 then kk (nI o) r28.2 else (f_X12_going r28.2).bind (fun r30 => (if r30 = 0 then kk (nI o) r28.2 else (f_X12_dropsDrawn r28.2).bind (fun r32 => kk (nI o + 1) r32))))) = kk (nI (o + d)) σm') ∧ Both 46 σx' σm' K P N L S' ∧ RlB σx' ∧ ScX σx σx' ∧ F2 σm σm' ∧ S' 3 5 = S 3 5 ∧ sI σx' 0 12 = nI x' ∧ sI σm' 1 8 = nI x' := by
  have hF := FU_big
  obtain ⟨hK5, hP4, hN6, _⟩ := hW.1
  have hV := h.2.2.2.2.1
  have hd := dr_lt x
  have hb1 := h.dw hB (nI (dr x)) (nI (dr x))
  have e1 := x_draw hx ex
  have e2 : f_X12_draws (100 : Int32) σm = some (nI (dr x / 65536 % 100), wI σm 1 8 (nI (dr x))) := m_draws (k := 100) hx (by decide) (by decide) em
  have hm64 : msk (hg S) N < 64 := msk_lt64 _ hN6
  have hg6 := hV.hg6 hN6
  have eg : f_X8_worksThatGo 46 (wI σx 0 12 (nI (dr x))) = some (nI (msk (hg S) N)) := by rw [x_going hb1.2.2.1 (hV.hs hP4), hg6]
  have egm : f_X12_going (wI σm 1 8 (nI (dr x))) = some (nI (msk (hg S) N)) := m_going hb1.2.2.2.1 hb1.2.1.1.2.2.1 hN6 (hV.hs hP4)
  have hpc := b_pc_le _ hm64
  unfold f_X11_dropByDraw b_X11_dropByDraw_0
  rw [e1, bnd, nl_rem (by omega) (by decide) (by decide), q_lt (by omega) (by omega), eg, bnd, x_bitCount _ hm64, bnd, q_zero (by omega)]
  by_cases hlt : dr x / 65536 % 100 < p
  · rw [if_pos hlt]
    by_cases hz : pc (msk (hg S) N) = 0
    · refine ⟨0, dr x, _, _, S, by omega, hd, by rw [if_pos hz]; rfl, fun kk o => ?_, hb1, fun b hb => hB b hb, ScX.dw _ _, F2.dw _ _, rfl, sI_wIs _ _ _ _, sI_wIs _ _ _ _⟩
      have hz2 := (pc_zero _ hm64).mp hz
      rw [e2, bnd, q_le (by omega) (by omega), if_neg (by omega), egm, bnd, hz2, if_pos (show nI 0 = 0 from rfl)]
      rfl
    · rw [if_neg hz]
      have hne : ¬ msk (hg S) N = 0 := fun q => hz ((pc_zero _ hm64).mpr q)
      have e3 := x_draw (σ := wI σx 0 12 (nI (dr x))) hd (sI_wIs _ _ _ _)
      have hb2 := hb1.dw (fun b hb => hB b hb) (nI (dr (dr x))) (nI (dr (dr x)))
      have hd2 := dr_lt (dr x)
      have hmod : dr (dr x) / 65536 % pc (msk (hg S) N) < pc (msk (hg S) N) := Nat.mod_lt _ (by omega)
      obtain ⟨σx3, σm3, S3, g1, g2, g3, g4, g5, g6, g7, g8⟩ := lay_eq hW (Or.inr rfl) hb2 N 0 FU FU (dr (dr x) / 65536 % pc (msk (hg S) N)) (by omega) (by omega) (by omega) (by omega)
      have hb3 := hb2.to (fun b hb => hB b hb) (Or.inr rfl) g6 g7 g3 g4 g5
      refine ⟨1, dr (dr x), σx3, σm3, S3, by omega, hd2, ?_, fun kk o => ?_, hb3, RlB.fr (σx := wI (wI σx 0 12 (nI (dr x))) 0 12 (nI (dr (dr x)))) (fun b hb => hB b hb) g6.1, (ScX.dw _ _).trans ((ScX.dw _ _).trans g6.sc), (F2.dw _ _).trans ((F2.dw _ _).trans g7.f2), g8, ?_, ?_⟩
      · rw [e3, bnd, chk_t (nI_ne0 (by omega) (by omega)), pk_rem (by omega) (by omega) (by omega)]
        have g1' : f_X8_layGoing 46 (nI (dr (dr x) / 65536 % pc (msk (hg S) N))) (wI (wI σx 0 12 (nI (dr x))) 0 12 (nI (dr (dr x)))) = some σx3 := g1
        rw [g1']; rfl
      · have e4 : f_X12_draws (nI (pc (msk (hg S) N))) (wI σm 1 8 (nI (dr x))) = some (nI (dr (dr x) / 65536 % pc (msk (hg S) N)), wI (wI σm 1 8 (nI (dr x))) 1 8 (nI (dr (dr x)))) := m_draws hd (by omega) (by omega) (sI_wIs _ _ _ _)
        have e5 : f_X12_dropsDrawn (wI σm 1 8 (nI (dr x))) = some σm3 := by
          unfold f_X12_dropsDrawn b_X12_dropsDrawn_0
          rw [egm, bnd, m_bits _ hm64, bnd, e4, bnd]
          exact g2
        rw [e2, bnd, q_le (by omega) (by omega), if_neg (by omega), egm, bnd, q_zero (by omega), if_neg hne, e5, bnd, nI_1]
      · rw [g6.2 0 (by omega), sI_wIs]
      · rw [g7.2.2 8 (by decide) (by decide) (by decide), sI_wIs]
  · rw [if_neg hlt]
    refine ⟨0, dr x, _, _, S, by omega, hd, rfl, fun kk o => ?_, hb1, fun b hb => hB b hb, ScX.dw _ _, F2.dw _ _, rfl, sI_wIs _ _ _ _, sI_wIs _ _ _ _⟩
    rw [e2, bnd, q_le (by omega) (by omega), if_pos (by omega)]
    rfl
theorem night_loop (hW : WL K P N L) {p n : Nat} (hp : p ≤ 100) (hn : n ≤ 60) (k80 : Int32 → Int32 → Int32 → Int32 → Int32 → Int32 → Int32 → MS → Option (Int32 × MS)) (k82 : Int32 → Int32 → Int32 → Int32 → Int32 → Int32 → Int32 → Int32 → Int32 → MS → Option (Int32 × MS)) {y1 y4 y5 y6 y7 y8 y9 : Int32} : ∀ (j k fx fm e x : Nat) (σx σm : MS) (S : Row2), k + j = n → j < fx → j < fm → x < 2 ^ 31 → Both 46 σx σm K P N L S → RlB σx → S 3 5 + j < 3000 → sI σx 0 12 = nI x → sI σm 1 8 = nI x →
    ∃ e' x' g σx' σm', x' < 2 ^ 31 ∧ e' ≤ e + 7 * j ∧ g ≤ 6 ∧ b_X11_nights_94 k80 fx y1 (nI n) (nI p) y4 (nI e) y6 y7 (nI k) σx = k80 y1 (nI n) (nI p) y4 (nI e') (y6 + nI g) (y7 + 1) σx' ∧ b_X12_nights_100 k82 fm y1 (nI n) (nI p) y4 y5 (nI e) y8 y9 (nI k) σm = (f_X12_laysBack σm').bind (fun r27 => k82 y1 (nI n) (nI p) y4 y5 (nI x') (nI e') (y8 + nI g) (y9 + 1) r27) ∧ ScX σx σx' ∧ F2 σm σm' ∧ sI σx' 0 12 = nI x'
  | 0, k, fx + 1, fm + 1, e, x, σx, σm, S, hk, _, _, hx, h, hB, hh, ex, em => by
    obtain ⟨hK5, hP4, hN6, _⟩ := hW.1
    have hV := h.2.2.2.2.1
    have hm64 : msk (hg S) N < 64 := msk_lt64 _ hN6
    have hpc := b_pc_le _ hm64
    refine ⟨e, x, pc (msk (hg S) N), σx, σm, hx, by omega, hpc, ?_, ?_, ScX.refl _, F2.refl _, ex⟩
    · unfold b_X11_nights_94
      rw [q_le (by omega) (by omega), if_pos (by omega), x_going h.2.2.1 (hV.hs hP4), hV.hg6 hN6, bnd, x_bitCount _ hm64, bnd]
    · unfold b_X12_nights_100
      rw [q_le (by omega) (by omega), if_pos (by omega), m_going h.2.2.2.1 h.2.1.1.2.2.1 hN6 (hV.hs hP4), bnd, m_bits _ hm64, bnd, em]
  | j + 1, k, fx + 1, fm + 1, e, x, σx, σm, S, hk, hj, hj2, hx, h, hB, hh, ex, em => by
    obtain ⟨d, x1, σx1, σm1, S1, d1, d2, d3, d4, d5, d6, d7, d8, d9, d10, d11⟩ := drop_eq hW hp hx h hB ex em
    obtain ⟨m, σx2, σm2, S2, a1, a2, a3, a4, a5, a6, a7, _⟩ := hour_eq hW (Or.inr rfl) d5 d6 (by omega)
    have hpc := b_pc_le m a3
    obtain ⟨e', x', g, σx', σm', b1, b2, b3, b4, b5, b6, b7, b8⟩ := night_loop hW hp hn k80 k82 (y1 := y1) (y4 := y4) (y5 := y5) (y6 := y6) (y7 := y7) (y8 := y8) (y9 := y9) j (k + 1) fx fm (e + d + pc m) x1 σx2 σm2 S2 (by omega) (by omega) (by omega) d2 a4 (d6.fr a5.1) (by omega) (by rw [a5.2 0 (by omega)]; exact d10) (by rw [a6.2.2 8 (by decide) (by decide) (by decide)]; exact d11)
    refine ⟨e', x', g, σx', σm', b1, by omega, b3, ?_, ?_, (d7.trans a5.sc).trans b6, (d8.trans a6.f2).trans b7, b8⟩
    · conv => lhs; unfold b_X11_nights_94
      rw [q_le (by omega) (by omega), if_neg (by omega), d3, bnd, a1, bnd, x_bitCount m a3, bnd, nI_add, nI_add, nI_1]
      exact b4
    · conv => lhs; unfold b_X12_nights_100 b_X12_nights_130
      rw [q_le (by omega) (by omega), if_neg (by omega)]
      have d4' := d4 (fun z σ => (f_X12_goes σ).bind (fun r23 => (b_X12_nights_100 k82 fm y1 (nI n) (nI p) y4 y5 (z + r23.1) y8 y9 (nI k + 1) r23.2))) e
      rw [d4', a2, bnd, nI_add, nI_1]
      exact b5
  | _, _, 0, _, _, _, _, _, _, _, hn, _, _, _, _, _, _, _ => absurd hn (Nat.not_lt_zero _)
  | _, _, _, 0, _, _, _, _, _, _, _, hn, _, _, _, _, _, _ => absurd hn (Nat.not_lt_zero _)
end NN
section NO
variable {t : Nat} {ow : Nat → Nat} {W : Wd} {Wi : Nat → Option Wd} {RR : List (List Cls)} {T : Nat → Nat} {len : Nat} {σm : MS}
theorem nights_loop (hm : IM W Wi RR T len σm) (ho : OKW W Wi RR T len) {p n M : Nat} (hp : p ≤ 100) (hn : n ≤ 60) (hM : M ≤ 10) {y4 : Int32} : ∀ (j i fx fm e g x : Nat) (σx σ1 : MS), i + j = M → j < fx → j < fm → x < 2 ^ 31 → IX t ow W Wi RR T len σx → KG σm σ1 → KB σm σ1 → sI σx 0 12 = nI x →
    ∃ r σx' σ', b_X11_nights_80 fx (nI M) (nI n) (nI p) y4 (nI e) (nI g) (nI i) σx = some (r, σx') ∧ b_X12_nights_82 fm (nI M) (nI n) (nI p) y4 (nI (wc W 5)) (nI x) (nI e) (nI g) (nI i) σ1 = some (r, σ') ∧ ScX σx σx' ∧ ScM σm σ'
  | 0, i, fx + 1, fm + 1, e, g, x, σx, σ1, hi, _, _, hx, hX, hk, hb, ex => by
    have e8 : sI σ1 1 8 = nI (wc W 5) := by rw [hk.2.2.2.1.1 8 (by decide)]; exact hm.2.2.1.2.2.2.1.2.1
    have sc : ScM σm (wI σ1 1 8 (nI (wc W 5))) := by
      refine hk.sc.trans ⟨⟨rfl, rfl, rfl⟩, fun j _ => by rw [sI_wIn _ _ _ _ (by decide)], fun b hb => sI_wIn _ _ _ _ (by omega), fun j hj => ?_, fun j _ => by rw [sI_wIn _ _ _ _ (by decide)], fun j _ => by rw [sI_wIn _ _ _ _ (by decide)], fun j _ => by rw [sI_wIn _ _ _ _ (by decide)], fun j _ => by rw [sI_wIn _ _ _ _ (by decide)]⟩
      by_cases q : j = 8
      · subst q; rw [sI_wIs, e8]
      · rw [sI_wIk _ _ _ _ q]
    unfold b_X11_nights_80 b_X12_nights_82 b_X11_nights_168 b_X12_nights_197
    rw [q_le (by omega) (by omega), if_pos (by omega), q_le (by omega) (by omega), if_pos (show M ≤ i by omega)]
    by_cases h : y4 = 0
    · exact ⟨_, σx, _, by rw [if_pos h], by rw [if_pos h], ScX.refl _, sc⟩
    · exact ⟨_, σx, _, by rw [if_neg h], by rw [if_neg h], ScX.refl _, sc⟩
  | j + 1, i, fx + 1, fm + 1, e, g, x, σx, σ1, hi, h1, h2, hx, hX, hk, hb, ex => by
    have hF := FU_big
    have hW := ho.2.2.1.1
    have h999 := hW.2.2.1.2
    obtain ⟨σx1, a1, a2, a3, a4⟩ := trial hX hm ho hk
    have ex1 : sI σx1 0 12 = nI x := by
      have e46 : ∃ o σ2, σ2 = wI (wR σx 44 2 o) 44 3 (-1) ∧ f_X8_copyFrom 46 35 σ2 = some σx1 := by
        unfold f_X11_startTrial b_X11_startTrial_0 at a1
        cases hr : f_X11_ruleNumbered (sI σx 22 9) σx with
        | none => rw [hr] at a1; cases a1
        | some o =>
          rw [hr, bnd, x_follow, bnd] at a1
          cases hc : f_X8_copyFrom 46 35 (wI (wR σx 44 2 o) 44 3 (-1)) with
          | none => rw [hc] at a1; cases a1
          | some σ3 =>
            rw [hc, bnd] at a1
            cases a1
            exact ⟨o, _, rfl, hc⟩
      obtain ⟨o, σ2, rfl, hc⟩ := e46
      have hS : SX 35 (wI (wR σx 44 2 o) 44 3 (-1)) (wS W) := (show SX 35 σx (wS W) from hX.2.2.2.1.2.2.1).fr (fun b q1 q2 => by rw [sI_wIn _ _ _ _ (by omega)]; rfl)
      obtain ⟨σ4, c1, c2, c3⟩ := x_copy (a0 := 46) hS (by decide)
      rw [hc] at c1
      cases c1
      rw [c3.2 0 (by omega), sI_wIn _ _ _ _ (by decide)]
      exact ex
    have hb1 : Both 46 σx1 (wI σ1 1 8 (nI x)) (wc W 1) (wc W 2) (wc W 3) (wL W) (wS W) := by
      have := a3.dw a4 (nI x) (nI x)
      have e0 : wI σx1 0 12 (nI x) = σx1 := by
        rw [← ex1]
        show (σx1.1, σx1.2.1, up2 (sI σx1) 0 12 (sI σx1 0 12), σx1.2.2.2.1, σx1.2.2.2.2) = σx1
        have : up2 (sI σx1) 0 12 (sI σx1 0 12) = sI σx1 := by
          funext b q
          unfold up2
          split
          · rename_i hb; subst hb
            split
            · rename_i hq; subst hq; rfl
            · rfl
          · rfl
        rw [this]; rfl
      rw [e0] at this
      exact this
    obtain ⟨e', x', g', σx2, σ2, b1, b2, b3, b4, b5, b6, b7, b8⟩ := night_loop hW.2.1.1 hp hn (b_X11_nights_80 fx) (b_X12_nights_82 fm) (y1 := nI M) (y4 := y4) (y5 := nI (wc W 5)) (y6 := nI g) (y7 := nI i) (y8 := nI g) (y9 := nI i) n 0 FU FU e x σx1 (wI σ1 1 8 (nI x)) (wS W) (by omega) (by omega) (by omega) hx hb1 a4 (by omega) ex1 (sI_wIs _ _ _ _)
    obtain ⟨σ3, c1, c2, c3⟩ := back_kg hk hb ((F2.dw _ _).trans b7)
    obtain ⟨r, σx', σ', k1, k2, k3, k4⟩ := nights_loop hm ho hp hn hM (y4 := y4) j (i + 1) fx fm e' (g + g') x' σx2 σ3 (by omega) (by omega) (by omega) b1 (hX.sc (a2.trans b6)) c2 c3 b8
    refine ⟨r, σx', σ', ?_, ?_, (a2.trans b6).trans k3, k4⟩
    · conv => lhs; unfold b_X11_nights_80
      rw [q_le (by omega) (by omega), if_neg (by omega), a1, bnd]
      have b4' : b_X11_nights_94 (b_X11_nights_80 fx) FU (nI M) (nI n) (nI p) y4 (nI e) (nI g) (nI i) 0 σx1 = _ := b4
      rw [b4', nI_add, nI_1]
      exact k1
    · conv => lhs; unfold b_X12_nights_82
      rw [q_le (by omega) (by omega), if_neg (by omega)]
      have b5' : b_X12_nights_100 (b_X12_nights_82 fm) FU (nI M) (nI n) (nI p) y4 (nI (wc W 5)) (nI e) (nI g) (nI i) 0 (wI σ1 1 8 (nI x)) = _ := b5
      rw [b5', c1, bnd, nI_add, nI_1]
      exact k2
  | _, _, 0, _, _, _, _, _, _, _, hn, _, _, _, _, _, _ => absurd hn (Nat.not_lt_zero _)
  | _, _, _, 0, _, _, _, _, _, _, _, hn, _, _, _, _, _ => absurd hn (Nat.not_lt_zero _)
end NO
theorem s_28 : StpK 28 := fun t a σx σm _ hI0 => by
  have hI1 := hI0
  obtain ⟨ow, W, Wi, RR, T, len, h1, h2, h3⟩ := hI0
  have hF := FU_big
  have hW := h3.2.2.1.1
  have hv := h1.2.2.2.1.v
  have h01 := hW.1.1
  show ∃ r σx' σm', f_X11_nights (a 1) (a 2) (a 3) (a 4) σx = some (r, σx') ∧ f_X12_nights (a 1) (a 2) (a 3) (a 4) σm = some (r, σm') ∧ Inv (t + 1) σx' σm'
  unfold f_X11_nights b_X11_nights_0 b_X11_nights_35 b_X11_nights_58 f_X12_nights b_X12_nights_0 b_X12_nights_54
  have fail : ∃ r σx' σm', some ((-1 : Int32), σx) = some (r, σx') ∧ some ((-1 : Int32), σm) = some (r, σm') ∧ Inv (t + 1) σx' σm' := ⟨-1, σx, σm, rfl, rfl, hI1.up (by omega)⟩
  rw [hv.1.1, h2.2.2.1.1.1, q_zero (by omega), q_zero (by omega)]
  by_cases h0 : wc W 0 = 0
  · rw [if_pos h0, if_pos h0]; exact fail
  rw [if_neg h0, if_neg h0]
  rcases m_in (a 1) (l := 1) (h := 10) 1 10 (by decide) (by decide) (by decide) (by decide) with ⟨g, hin⟩ | ⟨M, M1, M10, eM, hin⟩
  · rw [hin, bnd, if_pos rfl]
    rcases g with g | g
    · rw [if_pos (show a 1 < 1 from g)]; exact fail
    · rw [if_pos (show 10 < a 1 from g), ite_self]; exact fail
  rw [hin, bnd, if_neg one_ne, eM, q_nl_lt (by decide) (by omega), if_neg (by omega), q_ln_lt (by decide) (by omega), if_neg (by omega)]
  rcases m_in (a 2) (l := 1) (h := 60) 1 60 (by decide) (by decide) (by decide) (by decide) with ⟨g, hin2⟩ | ⟨n, n1, n60, en, hin2⟩
  · rw [hin2, bnd, if_pos rfl]
    rcases g with g | g
    · rw [if_pos (show a 2 < 1 from g)]; exact fail
    · have : ¬ a 2 ≤ 60 := fun q => by
        have g' : (60 : Int32) < a 2 := g
        rw [Int32.le_iff_toInt_le] at q
        rw [Int32.lt_iff_toInt_lt] at g'
        omega
      rw [if_neg this, ite_self]; exact fail
  rw [hin2, bnd, if_neg one_ne, en, q_nl_lt (by decide) (by omega), if_neg (by omega), q_nl_le (by decide) (by omega), if_pos n60]
  rcases m_in (a 3) (l := 0) (h := 100) 0 100 (by decide) (by decide) (by decide) (by decide) with ⟨g, hin3⟩ | ⟨p, _, p100, ep, hin3⟩
  · rw [hin3, bnd, if_pos rfl]
    rcases g with g | g
    · rw [if_pos (show a 3 < 0 from g)]; exact fail
    · rw [if_pos (show 100 < a 3 from g), ite_self]; exact fail
  rw [hin3, bnd, if_neg one_ne, ep, if_neg (nI_pos (by omega)), q_ln_lt (by decide) (by omega), if_neg (by omega)]
  rcases w_what (a 4) with ⟨j, hj, ej, g⟩ | ⟨g1, g2⟩
  · obtain ⟨σ1, k1, k2, k3⟩ := m_keepsAll σm
    have e8 : sI σm 1 8 = nI (wc W 5) := h2.2.2.1.2.2.2.1.2.1
    rw [g, bnd, if_neg one_ne, k1, bnd, ej, if_neg (nI_pos (by omega)), q_nl_le (by decide) (by omega), if_pos hj, hv.2.2.2.1.2.1, e8]
    obtain ⟨r, σx', σ', q1, q2, q3, q4⟩ := nights_loop h2 h3 p100 n60 M10 (y4 := nI j) M 0 FU FU 0 0 (wc W 5) (wI σx 0 12 (nI (wc W 5))) σ1 (by omega) (by omega) (by omega) hW.1.2.2.1 (h1.sc (ScX.dw _ _)) k2.g k3 (sI_wIs _ _ _ _)
    exact ⟨r, σx', σ', q1, q2, (hI1.sc ((ScX.dw _ _).trans q3) q4).up (by omega)⟩
  · rw [g2, bnd, if_pos rfl]
    rcases g1 with g1 | g1
    · rw [if_pos g1]; exact fail
    · rw [if_neg (le1 g1), ite_self]; exact fail
end
