/-! ===== pure: help ===== -/
section
theorem hI_1 (q : Nat) : hI q + 1 = hI (q + 1) := by
  cases q with
  | zero => decide
  | succ p => rw [hI_s, hI_s, nI_1]
theorem nh_le {P q : Nat} (hP : P < 2 ^ 31) (hq : q < 2 ^ 31) : (nI P ≤ hI q) ↔ P < q := by
  cases q with
  | zero =>
    rw [hI_0]
    constructor
    · intro h
      exfalso
      rw [Int32.le_iff_toInt_le, nI_toInt hP] at h
      have : (-1 : Int32).toInt = -1 := by decide
      omega
    · intro h; omega
  | succ p => rw [hI_s, nI_leI hP (by omega)]; omega
/-- the land with one hand more -/
def Lq (L : Row2) (q : Nat) : Row2 := if q = 0 then L else up2 L 4 (q - 1) (L 4 (q - 1) + 1)
theorem Lq_r (L : Row2) (q : Nat) {r : Nat} (hr : r ≠ 4) : Lq L q r = L r := by
  unfold Lq
  split
  · rfl
  · exact up2_rowN _ _ _ hr
theorem Lq_4 (L : Row2) (q p : Nat) : Lq L q 4 p = L 4 p + (if p + 1 = q then 1 else 0) := by
  unfold Lq
  by_cases h : q = 0
  · subst h; rw [if_pos rfl, if_neg (by omega)]; rfl
  · rw [if_neg h]
    by_cases e : p = q - 1
    · rw [← e, up2_s, if_pos (by omega)]
    · rw [up2_k _ _ _ e, if_neg (by omega)]; rfl
theorem WL.q {K P N : Nat} {L : Row2} (h : WL K P N L) (h3 : ∀ p, p < P → L 4 p ≤ 3) (q : Nat) : WL K P N (Lq L q) := by
  obtain ⟨⟨a1, a2, a3, a4⟩, b, c, d⟩ := h
  refine ⟨⟨a1, a2, a3, by rw [Lq_r _ _ (by decide)]; exact a4⟩, fun k hk => ?_, fun p hp => ?_, fun w hw => ?_⟩
  · rw [Lq_r _ _ (by decide), Lq_r _ _ (by decide)]; exact b k hk
  · rw [Lq_r _ _ (by decide), Lq_r _ _ (by decide), Lq_4]
    have := h3 p hp
    refine ⟨(c p hp).1, (c p hp).2.1, ?_⟩
    split <;> omega
  · rw [Lq_r _ _ (by decide), Lq_r _ _ (by decide)]; exact d w hw
theorem LX.q {σ : MS} {K P N : Nat} {L : Row2} (h : LX 23 σ K P N L) (hP : P ≤ 4) {q : Nat} (hq : q ≤ P) (hn : sI σ 44 3 = hI q) : LH σ K P N (Lq L q) := by
  obtain ⟨h1, h2, h3, h4⟩ := h
  refine ⟨⟨h1.1, h1.2.1, h1.2.2.1, by rw [Lq_r _ _ (by decide)]; exact h1.2.2.2⟩, fun k hk => ?_, fun p hp => ⟨?_, ?_, ?_⟩, fun w hw => ?_⟩
  · rw [Lq_r _ _ (by decide), Lq_r _ _ (by decide)]; exact h2 k hk
  · rw [Lq_r _ _ (by decide)]; exact (h3 p hp).1
  · rw [Lq_r _ _ (by decide)]; exact (h3 p hp).2.1
  · rw [Lq_4, hn, show sI σ 28 p = nI (L 4 p) from (h3 p hp).2.2]
    have e : (nI p = hI q) ↔ p + 1 = q := by
      rw [eq_comm, hI_n (by omega) (by omega)]; omega
    by_cases z : p + 1 = q
    · rw [if_pos (e.mpr z), if_pos z, nI_1]
    · rw [if_neg (fun y => z (e.mp y)), if_neg z, Int32.add_zero]; rfl
  · rw [Lq_r _ _ (by decide), Lq_r _ _ (by decide)]; exact h4 w hw
theorem LM.q {σ : MS} {K P N : Nat} {L : Row2} (h : LM σ K P N L) {q : Nat} (hq : q < P) : LM (wI σ 7 q (nI (L 4 q + 1))) K P N (Lq L (q + 1)) := by
  obtain ⟨h1, h2, h3, h4⟩ := h
  have hn : ∀ b, b ≠ 7 → sI (wI σ 7 q (nI (L 4 q + 1))) b = sI σ b := fun b hb => sI_wIn _ _ _ _ hb
  refine ⟨?_, fun k hk => ?_, fun p hp => ⟨?_, ?_, ?_⟩, fun w hw => ?_⟩
  · rw [hn 1 (by decide), Lq_r _ _ (by decide)]; exact h1
  · rw [hn 2 (by decide), hn 3 (by decide), Lq_r _ _ (by decide), Lq_r _ _ (by decide)]; exact h2 k hk
  · rw [hn 5 (by decide), Lq_r _ _ (by decide)]; exact (h3 p hp).1
  · rw [hn 6 (by decide), Lq_r _ _ (by decide)]; exact (h3 p hp).2.1
  · rw [Lq_4]
    by_cases e : p = q
    · subst e; rw [sI_wIs, if_pos rfl]
    · rw [sI_wIk _ _ _ _ e, if_neg (by omega), Nat.add_zero]; exact (h3 p hp).2.2
  · rw [hn 8 (by decide), hn 11 (by decide), Lq_r _ _ (by decide), Lq_r _ _ (by decide)]; exact h4 w hw
section HP
variable {t : Nat} {ow : Nat → Nat} {W : Wd} {Wi : Nat → Option Wd} {RR : List (List Cls)} {T : Nat → Nat} {len : Nat} {σx σm : MS}
/-- one trial of help -/
theorem help_one (hx : IX t ow W Wi RR T len σx) (hm : IM W Wi RR T len σm) (ho : OKW W Wi RR T len) {σ1 : MS} (hk : KG σm σ1) (hb : KB σm σ1) {n q : Nat} (hn : n ≤ 48) (hq : q ≤ wc W 2) : ∃ c σx1 σx2 σ3, f_X11_startTrial (hI q) σx = some σx1 ∧ f_X11_stopsInTrial (nI n) σx1 = some (nI c, σx2) ∧ ScX σx σx2 ∧ KG σm σ3 ∧ KB σm σ3 ∧ c ≤ 288 ∧
    ∀ (k44 : Int32 → Int32 → Int32 → Int32 → Int32 → MS → Option (Int32 × MS)) (y2 y3 y4 : Int32), (if hI q = (-1 : Int32) then b_X12_help_72 k44 (nI n) y2 y3 y4 (hI q) σ1 else chk (inb (hI q) 4) (chk (inb (hI q) 4) (b_X12_help_72 k44 (nI n) y2 y3 y4 (hI q) (wI σ1 7 (ix (hI q)) ((sI σ1 7 (ix (hI q))) + (1 : Int32)))))) = (if y4 = (-1 : Int32) then b_X12_help_113 k44 (nI n) y2 (hI q) (nI c) σ3 else (if y4 ≤ nI c then b_X12_help_120 k44 (nI n) y2 y3 y4 (hI q) σ3 else b_X12_help_113 k44 (nI n) y2 (hI q) (nI c) σ3)) := by
  have hW := ho.2.2.1.1
  have hWL := hW.2.1.1
  obtain ⟨⟨hK5, hP4, hN6, hf⟩, _⟩ := hW.2.1.1
  have h999 := hW.2.2.1.2
  obtain ⟨σx1, a1, a2, a3, a4, a5⟩ := x_start hx ho.2.1.1 ho.2.2.1.2 (hI q)
  have hL : LX 23 σx (wc W 1) (wc W 2) (wc W 3) (wL W) := hx.2.2.2.1.1.2
  have hLx : LH σx1 (wc W 1) (wc W 2) (wc W 3) (Lq (wL W) q) := (hL.fr (fun b q1 q2 => a2.2.2.2.1 b (by omega))).q hP4 hq a4
  have hLm : LM σ1 (wc W 1) (wc W 2) (wc W 3) (wL W) := hm.2.2.1.1.2.kg hK5 hP4 hN6 hk
  have hSm : SM σ1 (wc W 2) (wc W 3) (wS W) := hm.2.2.1.2.1.kg hP4 hN6 hk
  have rl : ∀ σ2, sI σ2 1 = sI σ1 1 → (∀ b, 29 ≤ b → b ≤ 34 → sI σ2 b = sI σ1 b) → Rl σx1 σ2 ∧ RlB σx1 := fun σ2 e1 e2 => rl_of ho.2.1.1 ho.2.1.2 ho.2.2.1.2 a5 (by rw [e1, hk.2.2.2.1.1 9 (by decide)]; exact hm.2.2.1.2.2.2.1.1) (fun r hr => (hm.2.1.2.2 r hr).fr (fun b q1 q2 => by rw [e2 b q1 q2]; exact hk.2.2.1 b (by omega) (by omega) (by omega) (by omega) (by omega) (by omega)))
  cases q with
  | zero =>
    obtain ⟨r1, r2⟩ := rl σ1 rfl (fun _ _ _ => rfl)
    have hB : Both 46 σx1 σ1 (wc W 1) (wc W 2) (wc W 3) (wL W) (wS W) := ⟨by have := hLx; unfold Lq at this; rw [if_pos rfl] at this; exact this, hLm, a3, hSm, hW.2.2.1.1, r1⟩
    obtain ⟨c, σx2, σ2, S2, b1, b2, b3, b4, b5, b6, b7, b8⟩ := go_eq hWL (show n ≤ 200 by omega) hB r2 (by omega)
    obtain ⟨σ3, c1, c2, c3⟩ := back_kg hk hb b6.f2
    refine ⟨c, σx1, σx2, σ3, a1, b1, a2.trans b5.sc, c2, c3, by omega, fun k44 y2 y3 y4 => ?_⟩
    unfold b_X12_help_72 b_X12_help_96
    rw [hI_0, if_pos rfl, b2, bnd, if_pos rfl, c1, bnd]
  | succ q =>
    have hqP : q < wc W 2 := by omega
    have e7 : sI σ1 7 q = nI (wL W 4 q) := (hLm.2.2.1 q hqP).2.2
    have hn7 : ∀ b, b ≠ 7 → sI (wI σ1 7 q (nI (wL W 4 q + 1))) b = sI σ1 b := fun b hb => sI_wIn _ _ _ _ hb
    obtain ⟨r1, r2⟩ := rl (wI σ1 7 q (nI (wL W 4 q + 1))) (hn7 1 (by decide)) (fun b q1 q2 => hn7 b (by omega))
    have hB : Both 46 σx1 (wI σ1 7 q (nI (wL W 4 q + 1))) (wc W 1) (wc W 2) (wc W 3) (Lq (wL W) (q + 1)) (wS W) := ⟨hLx, hLm.q hqP, a3, hSm.cg hP4 hN6 (fun j _ => by rw [hn7 1 (by decide)]) (fun j _ => by rw [hn7 4 (by decide)]) (fun j _ => by rw [hn7 9 (by decide)]) (fun j _ => by rw [hn7 10 (by decide)]), hW.2.2.1.1, r1⟩
    obtain ⟨c, σx2, σ2, S2, b1, b2, b3, b4, b5, b6, b7, b8⟩ := go_eq (hWL.q hW.2.1.2 (q + 1)) (show n ≤ 200 by omega) hB r2 (by omega)
    have e7' : sI σ2 7 = sI (wI σ1 7 q (nI (wL W 4 q + 1))) 7 := b6.2.1 7 (by decide) (by decide) (by decide) (by decide)
    have f2 : F2 σ1 (wI σ2 7 q (nI (wL W 4 q))) := by
      refine ⟨⟨b6.1.1, b6.1.2.1, b6.1.2.2⟩, fun b h1 h4 h9 h10 => ?_⟩
      by_cases e : b = 7
      · subst e
        funext j
        by_cases ej : j = q
        · subst ej; rw [sI_wIs, e7]
        · rw [sI_wIk _ _ _ _ ej, e7', sI_wIk _ _ _ _ ej]
      · rw [sI_wIn _ _ _ _ e, b6.2.1 b h1 h4 h9 h10.1, hn7 b e]
    obtain ⟨σ3, c1, c2, c3⟩ := back_kg hk hb f2
    refine ⟨c, σx1, σx2, σ3, a1, b1, a2.trans b5.sc, c2, c3, by omega, fun k44 y2 y3 y4 => ?_⟩
    have bq : inb (nI q) 4 := in_n (by omega) (by decide)
    have n1 : ¬ nI q = -1 := n_neg1 (by omega)
    unfold b_X12_help_72 b_X12_help_96
    rw [hI_s, if_neg n1, chk_t bq, chk_t bq, ix_n (by omega), e7, nI_1, b2, bnd, if_neg n1, chk_t bq, chk_t bq, e7', sI_wIs, nI_pred, c1, bnd]
theorem help_loop (hm : IM W Wi RR T len σm) (ho : OKW W Wi RR T len) {n : Nat} (hn : n ≤ 48) (y2 : Int32) : ∀ (j q fx fm b c : Nat) (σx σ1 : MS), IX t ow W Wi RR T len σx → KG σm σ1 → KB σm σ1 → q + j = wc W 2 + 1 → j < fx → j < fm → c ≤ 288 →
    ∃ r σx' σ', b_X11_help_40 fx (nI n) y2 (hI b) (nI c) (hI q) σx = some (r, σx') ∧ b_X12_help_44 fm (nI n) y2 (hI b) (nI c) (hI q) σ1 = some (r, σ') ∧ ScX σx σx' ∧ KG σm σ' ∨ q = 0
  | j, 0, _, _, _, _, σx, σ1, _, _, _, _, _, _, _ => ⟨0, σx, σ1, Or.inr rfl⟩
  | 0, q + 1, fx + 1, fm + 1, b, c, σx, σ1, hx, hk, hb, hj, _, _, hc => by
    have hW := ho.2.2.1.1
    have hP4 := hW.2.1.1.1.2.1
    have ex : sI σx 23 3 = nI (wc W 2) := hx.2.2.2.1.1.2.1.2.1
    have em : sI σ1 1 3 = nI (wc W 2) := by rw [hk.2.2.2.1.1 3 (by decide)]; exact hm.2.2.1.1.2.1.2.1
    have cl : nI (wc W 2) ≤ hI (q + 1) := (nh_le (by omega) (by omega)).mpr (by omega)
    have key : ∃ r, b_X11_help_40 (fx + 1) (nI n) y2 (hI b) (nI c) (hI (q + 1)) σx = some (r, σx) ∧ b_X12_help_44 (fm + 1) (nI n) y2 (hI b) (nI c) (hI (q + 1)) σ1 = some (r, σ1) := by
      unfold b_X11_help_40 b_X12_help_44 b_X11_help_104 b_X12_help_136
      rw [ex, em, if_pos cl, if_pos cl]
      by_cases h : y2 = 0
      · exact ⟨_, by rw [if_pos h], by rw [if_pos h]⟩
      · exact ⟨_, by rw [if_neg h], by rw [if_neg h]⟩
    obtain ⟨r, k1, k2⟩ := key
    exact ⟨r, σx, σ1, Or.inl ⟨k1, k2, ScX.refl _, hk⟩⟩
  | j + 1, q + 1, fx + 1, fm + 1, b, c, σx, σ1, hx, hk, hb, hj, h1, h2, hc => by
    have hW := ho.2.2.1.1
    have hP4 := hW.2.1.1.1.2.1
    have ex : sI σx 23 3 = nI (wc W 2) := hx.2.2.2.1.1.2.1.2.1
    have em : sI σ1 1 3 = nI (wc W 2) := by rw [hk.2.2.2.1.1 3 (by decide)]; exact hm.2.2.1.1.2.1.2.1
    have cl : ¬ nI (wc W 2) ≤ hI (q + 1) := fun h => by have := (nh_le (by omega) (by omega)).mp h; omega
    obtain ⟨c2, σx1, σx2, σ3, a1, a2, a3, a4, a5, a6, a7⟩ := help_one hx hm ho hk hb hn (show q + 1 ≤ wc W 2 by omega)
    have nq : ¬ hI (q + 1) = -1 := by rw [hI_s]; exact n_neg1 (by omega)
    have nc : ¬ nI c = -1 := n_neg1 (by omega)
    have eX : b_X11_help_40 (fx + 1) (nI n) y2 (hI b) (nI c) (hI (q + 1)) σx = if c ≤ c2 then b_X11_help_40 fx (nI n) y2 (hI b) (nI c) (hI (q + 2)) σx2 else b_X11_help_40 fx (nI n) y2 (hI (q + 1)) (nI c2) (hI (q + 2)) σx2 := by
      conv => lhs; unfold b_X11_help_40 b_X11_help_81 b_X11_help_88
      rw [ex, if_neg cl, a1, bnd, a2, bnd, if_neg nq, q_le (by omega) (by omega), hI_1]
    have eM : b_X12_help_44 (fm + 1) (nI n) y2 (hI b) (nI c) (hI (q + 1)) σ1 = if c ≤ c2 then b_X12_help_44 fm (nI n) y2 (hI b) (nI c) (hI (q + 2)) σ3 else b_X12_help_44 fm (nI n) y2 (hI (q + 1)) (nI c2) (hI (q + 2)) σ3 := by
      conv => lhs; unfold b_X12_help_44
      rw [em, if_neg cl, a7, if_neg nc, q_le (by omega) (by omega)]
      unfold b_X12_help_113 b_X12_help_120
      rw [hI_1]
    by_cases hcc : c ≤ c2
    · obtain ⟨r, σx', σ', k⟩ := help_loop hm ho hn y2 j (q + 2) fx fm b c σx2 σ3 (hx.sc a3) a4 a5 (by omega) (by omega) (by omega) hc
      rcases k with ⟨k1, k2, k3, k4⟩ | k
      · exact ⟨r, σx', σ', Or.inl ⟨by rw [eX, if_pos hcc]; exact k1, by rw [eM, if_pos hcc]; exact k2, a3.trans k3, k4⟩⟩
      · omega
    · obtain ⟨r, σx', σ', k⟩ := help_loop hm ho hn y2 j (q + 2) fx fm (q + 1) c2 σx2 σ3 (hx.sc a3) a4 a5 (by omega) (by omega) (by omega) a6
      rcases k with ⟨k1, k2, k3, k4⟩ | k
      · exact ⟨r, σx', σ', Or.inl ⟨by rw [eX, if_neg hcc]; exact k1, by rw [eM, if_neg hcc]; exact k2, a3.trans k3, k4⟩⟩
      · omega
  | _, _ + 1, 0, _, _, _, _, _, _, _, _, _, hn, _, _ => absurd hn (Nat.not_lt_zero _)
  | _, _ + 1, _, 0, _, _, _, _, _, _, _, _, _, hn, _ => absurd hn (Nat.not_lt_zero _)
theorem s_21 : StpK 21 := fun t a σx σm _ hI0 => by
  have hI1 := hI0
  obtain ⟨ow, W, Wi, RR, T, len, h1, h2, h3⟩ := hI0
  have hF := FU_big
  have hW := h3.2.2.1.1
  obtain ⟨⟨hK5, hP4, hN6, hf⟩, hW2, hW3, hW4⟩ := hW.2.1.1
  have hv := h1.2.2.2.1.v
  have h01 := hW.1.1
  show ∃ r σx' σm', f_X11_help (a 1) (a 2) σx = some (r, σx') ∧ f_X12_help (a 1) (a 2) σm = some (r, σm') ∧ Inv (t + 1) σx' σm'
  unfold f_X11_help b_X11_help_0 b_X11_help_29 f_X12_help b_X12_help_0 b_X12_help_29
  have fail : ∃ r σx' σm', some ((-2 : Int32), σx) = some (r, σx') ∧ some ((-2 : Int32), σm) = some (r, σm') ∧ Inv (t + 1) σx' σm' := ⟨-2, σx, σm, rfl, rfl, hI1.up (by omega)⟩
  rw [hv.1.1, h2.2.2.1.1.1, q_zero (by omega), q_zero (by omega)]
  by_cases h0 : wc W 0 = 0
  · rw [if_pos h0, if_pos h0]; exact fail
  rw [if_neg h0, if_neg h0]
  rcases w_plan (a 1) with ⟨n, n1, n48, en, l2, l3⟩ | ⟨l2, l3⟩
  · rw [l2, l3, bnd, bnd, if_neg one_ne, if_neg one_ne]
    rcases w_what (a 2) with ⟨j, hj, ej, g⟩ | ⟨g1, g2⟩
    · obtain ⟨σ1, k1, k2, k3⟩ := m_keepsAll σm
      rw [g, bnd, if_neg one_ne, ej, if_neg (nI_pos (by omega)), q_nl_le (by decide) (by omega), if_pos hj, k1, bnd, en]
      obtain ⟨m, hm1, hmb⟩ : ∃ m, FU = m + 1 ∧ 800000 < m := ⟨999999, rfl, by decide⟩
      obtain ⟨c2, σx1, σx2, σ3, a1, a2, a3, a4, a5, a6, a7⟩ := help_one h1 h2 h3 k2.g k3 n48 (Nat.zero_le _)
      have ex : sI σx 23 3 = nI (wc W 2) := hv.1.2.1.2.1
      have em : sI σ1 1 3 = nI (wc W 2) := by rw [k2.g.2.2.2.1.1 3 (by decide)]; exact h2.2.2.1.1.2.1.2.1
      have cl : ¬ nI (wc W 2) ≤ -1 := fun h => by
        rw [← hI_0] at h
        have := (nh_le (by omega) (by omega)).mp h
        omega
      rw [hI_0] at a1
      have eX : b_X11_help_40 FU (nI n) (nI j) (-1) 0 (-1) σx = b_X11_help_40 m (nI n) (nI j) (hI 0) (nI c2) (hI 1) σx2 := by
        rw [hm1]
        conv => lhs; unfold b_X11_help_40 b_X11_help_81 b_X11_help_88
        rw [ex, if_neg cl, a1, bnd, a2, bnd, if_pos rfl]
        rfl
      have eM : b_X12_help_44 FU (nI n) (nI j) (-1) (-1) (-1) σ1 = b_X12_help_44 m (nI n) (nI j) (hI 0) (nI c2) (hI 1) σ3 := by
        have a7' := a7 (b_X12_help_44 m) (nI j) (-1) (-1)
        rw [hI_0, if_pos (show (-1 : Int32) = -1 from rfl)] at a7'
        rw [hm1]
        conv => lhs; unfold b_X12_help_44
        rw [em, if_neg cl, a7']
        unfold b_X12_help_113 b_X12_help_120
        rfl
      rw [eX, eM]
      obtain ⟨r, σx', σ', k⟩ := help_loop h2 h3 n48 (nI j) (wc W 2) 1 m m 0 c2 σx2 σ3 (h1.sc a3) a4 a5 (by omega) (by omega) (by omega) a6
      rcases k with ⟨q1, q2, q3, q4⟩ | k
      · exact ⟨r, σx', σ', q1, q2, (hI1.sc (a3.trans q3) q4.sc).up (by omega)⟩
      · omega
    · rw [g2, bnd, if_pos rfl]
      rcases g1 with g1 | g1
      · rw [if_pos g1]; exact fail
      · rw [if_neg (le1 g1), ite_self]; exact fail
  · rw [l2, l3, bnd, bnd, if_pos rfl, if_pos rfl]; exact fail
end HP
end
