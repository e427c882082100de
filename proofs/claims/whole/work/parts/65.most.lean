/-! ===== pure: most, tariff, watch ===== -/
section
/-- hands of those awake -/
def hAf (W : Wd) (h p : Nat) : Nat := if asl (wL W 2 p) (wL W 3 p) h = 0 then wL W 4 p else 0
section QQ
variable {σx σm : MS} {W : Wd}
theorem x_hands_loop (hx : VX σx W) (hW : WW W) {h : Nat} (hh : h ≤ 5000) : ∀ (j k n c : Nat), k + j = wc W 2 → j < n → b_X3_handsAwakeAt_4 n (nI h) (nI c) (nI k) σx = some (nI (c + sumU (hAf W h) k j))
  | 0, k, n + 1, c, hk, _ => by
    have hP := hW.2.1.1.1.2.1
    unfold b_X3_handsAwakeAt_4 sumU
    rw [hx.1.2.1.2.1, q_le (by omega) (by omega), if_pos (by omega)]; rfl
  | j + 1, k, n + 1, c, hk, hn => by
    have hP := hW.2.1.1.1.2.1
    have w3 := hW.2.1.1.2.2.1 k (by omega)
    have a1 := hx.1.2.2.2.1 k (by omega)
    have h01 := asl_01 (wL W 2 k) (wL W 3 k) h
    have e28 : sI σx 28 k = nI (wL W 4 k) := a1.2.2
    have e : sumU (hAf W h) k (j + 1) = hAf W h k + sumU (hAf W h) (k + 1) j := rfl
    unfold b_X3_handsAwakeAt_4 b_X3_handsAwakeAt_30
    rw [e, hx.1.2.1.2.1, q_le (by omega) (by omega), if_neg (by omega), x_asleep (by omega) a1.1 a1.2.1 w3.1 w3.2.1 hh, bnd, q_zero (by omega), chk_t (in_n (show k < 4 by omega) (by decide)), ix_n (by omega), e28, nI_1, nI_add, x_hands_loop hx hW hh j (k + 1) n c (by omega) (by omega), x_hands_loop hx hW hh j (k + 1) n (c + wL W 4 k) (by omega) (by omega)]
    unfold hAf
    by_cases q : asl (wL W 2 k) (wL W 3 k) h = 0
    · rw [if_pos q, if_pos q, Nat.add_assoc]
    · rw [if_neg q, if_neg q, Nat.zero_add]
  | _, _, 0, _, _, hn => absurd hn (Nat.not_lt_zero _)
theorem x_hands (hx : VX σx W) (hW : WW W) {h : Nat} (hh : h ≤ 5000) : f_X3_handsAwakeAt (nI h) σx = some (nI (sumU (hAf W h) 0 (wc W 2))) := by
  have hF := FU_big
  have hP := hW.2.1.1.1.2.1
  have e := x_hands_loop hx hW hh (wc W 2) 0 FU 0 (by omega) (by omega)
  rw [Nat.zero_add] at e
  exact e
theorem hA_le (hW : WW W) (h : Nat) : sumU (hAf W h) 0 (wc W 2) ≤ 16 := by
  have hP := hW.2.1.1.1.2.1
  have := sumU_le (f := hAf W h) 4 (wc W 2) 0 (fun i _ h2 => by
    unfold hAf
    split
    · exact (hW.2.1.1.2.2.1 i (by omega)).2.2
    · omega)
  omega
theorem m_hands_loop (hm : MW σm W) (hW : WW W) (k39 : Int32 → Int32 → Int32 → Int32 → Int32 → MS → Option Int32) {y1 y2 y3 y4 : Int32} {t : Nat} (hh : wS W 3 5 + t ≤ 5000) : ∀ (j k n c : Nat), k + j = wc W 2 → j < n → b_X12_most_51 k39 n y1 y2 y3 y4 (nI t) (nI c) (nI k) σm = (if y3 = (-1 : Int32) then (b_X12_most_113 k39 y1 y2 (nI t) (nI (c + sumU (hAf W (wS W 3 5 + t)) k j)) σm) else (if y3 ≤ nI (c + sumU (hAf W (wS W 3 5 + t)) k j) then (b_X12_most_127 k39 y1 y2 y3 y4 (nI t) σm) else (b_X12_most_113 k39 y1 y2 (nI t) (nI (c + sumU (hAf W (wS W 3 5 + t)) k j)) σm)))
  | 0, k, n + 1, c, hk, _ => by
    have hP := hW.2.1.1.1.2.1
    unfold b_X12_most_51 sumU
    rw [hm.1.2.1.2.1, q_le (by omega) (by omega), if_pos (by omega)]; rfl
  | j + 1, k, n + 1, c, hk, hn => by
    have hP := hW.2.1.1.1.2.1
    have w3 := hW.2.1.1.2.2.1 k (by omega)
    have a1 := hm.1.2.2.2.1 k (by omega)
    have h01 := asl_01 (wL W 2 k) (wL W 3 k) (wS W 3 5 + t)
    have e : sumU (hAf W (wS W 3 5 + t)) k (j + 1) = hAf W (wS W 3 5 + t) k + sumU (hAf W (wS W 3 5 + t)) (k + 1) j := rfl
    have e5 : sI σm 1 5 = nI (wS W 3 5) := hm.2.1.2.2.2.2
    conv => lhs; unfold b_X12_most_51 b_X12_most_93
    rw [e, hm.1.2.1.2.1, q_le (by omega) (by omega), if_neg (by omega), e5, nI_add, m_asleep (by omega) a1.1 a1.2.1 w3.1 w3.2.1 hh, bnd, q_zero (by omega), chk_t (in_n (show k < 4 by omega) (by decide)), ix_n (by omega), a1.2.2, nI_1, nI_add, Int32.add_zero, m_hands_loop hm hW k39 hh j (k + 1) n c (by omega) (by omega), m_hands_loop hm hW k39 hh j (k + 1) n (c + wL W 4 k) (by omega) (by omega)]
    have e2 : hAf W (wS W 3 5 + t) k = if asl (wL W 2 k) (wL W 3 k) (wS W 3 5 + t) = 0 then wL W 4 k else 0 := rfl
    by_cases q : asl (wL W 2 k) (wL W 3 k) (wS W 3 5 + t) = 0
    · rw [if_pos q] at e2
      rw [if_pos q, e2, Nat.add_assoc]
    · rw [if_neg q] at e2
      rw [if_neg q, e2, Nat.zero_add]
  | _, _, 0, _, _, hn => absurd hn (Nat.not_lt_zero _)
theorem most_loop (hx : VX σx W) (hm : MW σm W) (hW : WW W) {N' : Nat} (hN : N' ≤ 48) (y2 : Int32) : ∀ (j k fx fm l w : Nat), k + j = N' → j < fx → j < fm → l ≤ 16 → Tw (b_X11_most_63 fx (nI N') y2 (nI (wS W 3 5)) (nI l) (nI w) (nI (wS W 3 5 + k)) σx) (b_X12_most_39 fm (nI N') y2 (nI l) (nI w) (nI k) σm)
  | 0, k, fx + 1, fm + 1, l, w, hk, _, _, hl => by
    have h999 := hW.2.2.1.2
    unfold b_X11_most_63 b_X12_most_39 b_X11_most_117 b_X12_most_143
    rw [nI_add, q_le (by omega) (by omega), if_pos (by omega), q_le (by omega) (by omega), if_pos (show N' ≤ k by omega)]
    exact sw (fun _ => tw _ rfl rfl) (fun _ => tw _ rfl rfl)
  | j + 1, k, fx + 1, fm + 1, l, w, hk, h1, h2, hl => by
    have hF := FU_big
    have h999 := hW.2.2.1.2
    have hP := hW.2.1.1.1.2.1
    have hA := hA_le hW (wS W 3 5 + k)
    have e5 : sI σm 1 5 = nI (wS W 3 5) := hm.2.1.2.2.2.2
    have eM := m_hands_loop hm hW (b_X12_most_39 fm) (y1 := nI N') (y2 := y2) (y3 := nI l) (y4 := nI w) (t := k) (by omega) (wc W 2) 0 FU 0 (by omega) (by omega)
    rw [Nat.zero_add] at eM
    unfold b_X11_most_63 b_X12_most_39 b_X11_most_100
    rw [nI_add, q_le (by omega) (by omega), if_neg (by omega), q_le (by omega) (by omega), if_neg (by omega), x_hands hx hW (by omega), bnd, q_le (by omega) (by omega), nI_1]
    have eM' : b_X12_most_51 (b_X12_most_39 fm) FU (nI N') y2 (nI l) (nI w) (nI k) 0 0 σm = _ := eM
    rw [eM', if_neg (n_neg1 (by omega)), q_le (by omega) (by omega)]
    unfold b_X12_most_113 b_X12_most_127
    rw [e5, nI_add, nI_1]
    by_cases q : l ≤ sumU (hAf W (wS W 3 5 + k)) 0 (wc W 2)
    · rw [if_pos q, if_pos q]
      exact most_loop hx hm hW hN y2 j (k + 1) fx fm l w (by omega) (by omega) (by omega) hl
    · rw [if_neg q, if_neg q]
      exact most_loop hx hm hW hN y2 j (k + 1) fx fm _ _ (by omega) (by omega) (by omega) hA
  | _, _, 0, _, _, _, _, hn, _, _ => absurd hn (Nat.not_lt_zero _)
  | _, _, _, 0, _, _, _, _, hn, _ => absurd hn (Nat.not_lt_zero _)
theorem le1 {x : Int32} (h : (1 : Int32) < x) : ¬ x ≤ 1 := fun q => by
  rw [Int32.le_iff_toInt_le] at q
  rw [Int32.lt_iff_toInt_lt] at h
  omega
theorem q_most (hx : VX σx W) (hm : MW σm W) (hW : WW W) (x y : Int32) : Tw (f_X11_most x y σx) (f_X12_most x y σm) := by
  have hF := FU_big
  have h01 := hW.1.1
  have h999 := hW.2.2.1.2
  have hP := hW.2.1.1.1.2.1
  have e5 : sI σm 1 5 = nI (wS W 3 5) := hm.2.1.2.2.2.2
  have ex5 : sI σx 35 5 = nI (wS W 3 5) := hx.2.2.1.2.2.2.2
  unfold f_X11_most b_X11_most_0 b_X11_most_29 f_X12_most b_X12_most_0 b_X12_most_29
  rw [hx.1.1, hm.1.1, q_zero (by omega), q_zero (by omega)]
  by_cases h0 : wc W 0 = 0
  · rw [if_pos h0, if_pos h0]; exact tw _ rfl rfl
  rw [if_neg h0, if_neg h0]
  rcases w_plan x with ⟨n, n1, n48, rfl, l2, l3⟩ | ⟨l2, l3⟩
  · rw [l2, l3, bnd, bnd, if_neg one_ne, if_neg one_ne]
    rcases w_what y with ⟨j, hj, rfl, g⟩ | ⟨g1, g2⟩
    · have hA := hA_le hW (wS W 3 5)
      rw [g, bnd, if_neg one_ne, if_neg (nI_pos (by omega)), q_nl_le (by decide) (by omega), if_pos hj, ex5, x_hands hx hW (by omega), bnd, nI_1]
      obtain ⟨m, hm1, hmb⟩ : ∃ m, FU = m + 1 ∧ 800000 < m := ⟨999999, rfl, by decide⟩
      have eM := m_hands_loop hm hW (b_X12_most_39 m) (y1 := nI n) (y2 := nI j) (y3 := -1) (y4 := -1) (t := 0) (by omega) (wc W 2) 0 FU 0 (by omega) (by omega)
      rw [Nat.zero_add, if_pos rfl] at eM
      have eM' : b_X12_most_51 (b_X12_most_39 m) FU (nI n) (nI j) (-1) (-1) 0 0 0 σm = _ := eM
      have step : b_X12_most_39 FU (nI n) (nI j) (-1) (-1) 0 σm = b_X12_most_39 m (nI n) (nI j) (nI (sumU (hAf W (wS W 3 5)) 0 (wc W 2))) (nI (wS W 3 5)) (nI 1) σm := by
        rw [hm1]
        conv => lhs; unfold b_X12_most_39
        rw [if_neg (show ¬ nI n ≤ 0 from nI_nle (by omega) (by omega)), eM']
        unfold b_X12_most_113 b_X12_most_127
        rw [e5, nI_add, nI_1, Nat.add_zero, Nat.zero_add]
      rw [step]
      exact most_loop hx hm hW n48 (nI j) (n - 1) 1 FU m _ _ (by omega) (by omega) (by omega) hA
    · rw [g2, bnd, if_pos rfl]
      refine tw (-1) ?_ rfl
      rcases g1 with g1 | g1
      · rw [if_pos g1]
      · rw [if_neg (le1 g1), ite_self]
  · rw [l2, l3]; exact tw (-1) rfl rfl
/-! tariff -/
def lyf (W : Wd) (k w : Nat) : Nat := if wL W 5 w = k ∧ wS W 0 w = 0 then 1 else 0
def pwf (W : Wd) (pr p : Nat) : Nat := if wS W 2 p < pr then 0 else 1
theorem x_lying (hx : VX σx W) (hW : WW W) {kd : Nat} (hk0 : kd < 5) : ∀ (j k n c : Nat), k + j = wc W 3 → j < n → b_X11_worksLying_4 n (nI kd) (nI c) (nI k) σx = some (nI (c + sumU (lyf W kd) k j))
  | 0, k, n + 1, c, hk, _ => by
    have hN := hW.2.1.1.1.2.2.1
    unfold b_X11_worksLying_4 sumU
    rw [hx.1.2.1.2.2.1, q_le (by omega) (by omega), if_pos (by omega)]; rfl
  | j + 1, k, n + 1, c, hk, hn => by
    obtain ⟨⟨hK5, hP4, hN6, _⟩, _, _, hW4⟩ := hW.2.1.1
    have hk5 := (hW4 k (by omega)).1
    have e29 : sI σx 29 k = nI (wL W 5 k) := (hx.1.2.2.2.2 k (by omega)).1
    have e36 : sI σx 36 k = hI (wS W 0 k) := (hx.2.2.1.1 k (by omega)).1
    have hs := (hW.2.2.1.1.1 k (by omega)).1
    have e : sumU (lyf W kd) k (j + 1) = lyf W kd k + sumU (lyf W kd) (k + 1) j := rfl
    unfold b_X11_worksLying_4 b_X11_worksLying_53
    rw [e, hx.1.2.1.2.2.1, q_le (by omega) (by omega), if_neg (by omega), chk_t (in_n (show k < 6 by omega) (by decide)), chk_t (in_n (show k < 6 by omega) (by decide)), ix_n (by omega), e29, e36, q_eq (by omega) (by omega), q_none (by omega), nI_1, nI_1, x_lying hx hW hk0 j (k + 1) n c (by omega) (by omega), x_lying hx hW hk0 j (k + 1) n (c + 1) (by omega) (by omega)]
    unfold lyf
    by_cases q : wL W 5 k = kd
    · by_cases q2 : wS W 0 k = 0
      · rw [if_pos q, if_pos q2, if_pos ⟨q, q2⟩, Nat.add_assoc]
      · rw [if_pos q, if_neg q2, if_neg (fun z => q2 z.2), Nat.zero_add]
    · rw [if_neg q, if_neg (fun z => q z.1), Nat.zero_add]
  | _, _, 0, _, _, hn => absurd hn (Nat.not_lt_zero _)
theorem m_lying (hm : MW σm W) (hW : WW W) {kd : Nat} (hk0 : kd < 5) (y2 : Int32) : ∀ (j k n c : Nat), k + j = wc W 3 → j < n → b_X12_tariff_25 n (nI kd) y2 (nI c) (nI k) σm = b_X12_tariff_81 FU y2 (nI (c + sumU (lyf W kd) k j)) 0 0 0 σm
  | 0, k, n + 1, c, hk, _ => by
    have hN := hW.2.1.1.1.2.2.1
    unfold b_X12_tariff_25 sumU
    rw [hm.1.2.1.2.2.1, q_le (by omega) (by omega), if_pos (by omega)]; rfl
  | j + 1, k, n + 1, c, hk, hn => by
    obtain ⟨⟨hK5, hP4, hN6, _⟩, _, _, hW4⟩ := hW.2.1.1
    have hk5 := (hW4 k (by omega)).1
    have e29 := (hm.1.2.2.2.2 k (by omega)).1
    have e36 := (hm.2.1.1 k (by omega)).1
    have hs := (hW.2.2.1.1.1 k (by omega)).1
    have e : sumU (lyf W kd) k (j + 1) = lyf W kd k + sumU (lyf W kd) (k + 1) j := rfl
    unfold b_X12_tariff_25 b_X12_tariff_63 b_X12_tariff_64
    rw [e, hm.1.2.1.2.2.1, q_le (by omega) (by omega), if_neg (by omega), chk_t (in_n (show k < 6 by omega) (by decide)), chk_t (in_n (show k < 6 by omega) (by decide)), ix_n (by omega), e29, e36, q_eq (by omega) (by omega), q_none (by omega), nI_1, nI_1, Int32.add_zero, m_lying hm hW hk0 y2 j (k + 1) n c (by omega) (by omega), m_lying hm hW hk0 y2 j (k + 1) n (c + 1) (by omega) (by omega)]
    unfold lyf
    by_cases q : wL W 5 k = kd
    · by_cases q2 : wS W 0 k = 0
      · rw [if_pos q, if_pos q2, if_pos ⟨q, q2⟩, Nat.add_assoc]
      · rw [if_pos q, if_neg q2, if_neg (fun z => q2 z.2), Nat.zero_add]
    · rw [if_neg q, if_neg (fun z => q z.1), Nat.zero_add]
  | _, _, 0, _, _, hn => absurd hn (Nat.not_lt_zero _)
theorem x_people (hx : VX σx W) (hW : WW W) {pr : Nat} (hpr : pr < 1000) : ∀ (j k n c : Nat), k + j = wc W 2 → j < n → b_X11_peopleWhoHave_4 n (nI pr) (nI c) (nI k) σx = some (nI (c + sumU (pwf W pr) k j))
  | 0, k, n + 1, c, hk, _ => by
    have hP := hW.2.1.1.1.2.1
    unfold b_X11_peopleWhoHave_4 sumU
    rw [hx.1.2.1.2.1, q_le (by omega) (by omega), if_pos (by omega)]; rfl
  | j + 1, k, n + 1, c, hk, hn => by
    have hP := hW.2.1.1.1.2.1
    have e38 : sI σx 38 k = nI (wS W 2 k) := hx.2.2.1.2.1 k (by omega)
    have hs := (hW.2.2.1.1.2.1 k (by omega)).1
    have e : sumU (pwf W pr) k (j + 1) = pwf W pr k + sumU (pwf W pr) (k + 1) j := rfl
    unfold b_X11_peopleWhoHave_4 b_X11_peopleWhoHave_37
    rw [e, hx.1.2.1.2.1, q_le (by omega) (by omega), if_neg (by omega), chk_t (in_n (show k < 4 by omega) (by decide)), ix_n (by omega), e38, q_lt (by omega) (by omega), nI_1, nI_1, x_people hx hW hpr j (k + 1) n c (by omega) (by omega), x_people hx hW hpr j (k + 1) n (c + 1) (by omega) (by omega)]
    unfold pwf
    by_cases q : wS W 2 k < pr
    · rw [if_pos q, if_pos q, Nat.zero_add]
    · rw [if_neg q, if_neg q, Nat.add_assoc]
  | _, _, 0, _, _, hn => absurd hn (Nat.not_lt_zero _)
theorem m_people (hm : MW σm W) (hW : WW W) (k81 : Int32 → Int32 → Int32 → Int32 → Int32 → MS → Option Int32) {pr ly : Nat} {y2 y4 y5 : Int32} (hpr : pr < 1000) (hly : ly < 100) : ∀ (j k n c : Nat), k + j = wc W 2 → j < n → c + j < 100 → b_X12_tariff_94 k81 n y2 (nI ly) y4 y5 (nI pr) (nI c) (nI k) σm = (if nI (pr * min ly (c + sumU (pwf W pr) k j)) ≤ y5 then k81 y2 (nI ly) y4 y5 (nI (pr + 1)) σm else k81 y2 (nI ly) (nI pr) (nI (pr * min ly (c + sumU (pwf W pr) k j))) (nI (pr + 1)) σm)
  | 0, k, n + 1, c, hk, _, hc => by
    have hP := hW.2.1.1.1.2.1
    unfold b_X12_tariff_94 b_X12_tariff_147 b_X12_tariff_164 b_X12_tariff_180 sumU
    rw [hm.1.2.1.2.1, q_le (by omega) (by omega), if_pos (by omega), q_le (by omega) (by omega), Nat.add_zero, pk_mul, pk_mul, nI_1]
    by_cases q : ly ≤ c
    · rw [if_pos q, Nat.min_eq_left q]
      by_cases q2 : nI (pr * ly) ≤ y5
      · simp only [if_pos q2]
      · simp only [if_neg q2]
    · rw [if_neg q, Nat.min_eq_right (by omega)]
      by_cases q2 : nI (pr * c) ≤ y5
      · simp only [if_pos q2]
      · simp only [if_neg q2]
  | j + 1, k, n + 1, c, hk, hn, hc => by
    have hP := hW.2.1.1.1.2.1
    have e38 := hm.2.1.2.1 k (by omega)
    have hs := (hW.2.2.1.1.2.1 k (by omega)).1
    have e : sumU (pwf W pr) k (j + 1) = pwf W pr k + sumU (pwf W pr) (k + 1) j := rfl
    conv => lhs; unfold b_X12_tariff_94 b_X12_tariff_124
    rw [e, hm.1.2.1.2.1, q_le (by omega) (by omega), if_neg (by omega), chk_t (in_n (show k < 4 by omega) (by decide)), ix_n (by omega), e38, q_lt (by omega) (by omega), nI_1, nI_1, Int32.add_zero, m_people hm hW k81 hpr hly j (k + 1) n c (by omega) (by omega) (by omega), m_people hm hW k81 hpr hly j (k + 1) n (c + 1) (by omega) (by omega) (by omega)]
    have e2 : pwf W pr k = if wS W 2 k < pr then 0 else 1 := rfl
    by_cases q : wS W 2 k < pr
    · rw [if_pos q] at e2
      rw [if_pos q, e2, Nat.zero_add]
    · rw [if_neg q] at e2
      rw [if_neg q, e2, Nat.add_assoc]
  | _, _, 0, _, _, hn, _ => absurd hn (Nat.not_lt_zero _)
theorem tariff_loop (hx : VX σx W) (hm : MW σm W) (hW : WW W) {ly : Nat} (hly : ly < 100) (y2 : Int32) : ∀ (j k fx fm b ms : Nat), k + j = 100 → j < fx → j < fm → ms < 100000 → Tw (b_X11_tariff_34 fx y2 (nI ly) (nI b) (nI ms) (nI k) σx) (b_X12_tariff_81 fm y2 (nI ly) (nI b) (nI ms) (nI k) σm)
  | 0, k, fx + 1, fm + 1, b, ms, hk, _, _, hl => by
    unfold b_X11_tariff_34 b_X12_tariff_81 b_X11_tariff_88 b_X12_tariff_199
    rw [q_ln_lt (by decide) (by omega), if_pos (by omega), q_ln_lt (by decide) (by omega), if_pos (show 99 < k by omega)]
    exact sw (fun _ => tw _ rfl rfl) (fun _ => tw _ rfl rfl)
  | j + 1, k, fx + 1, fm + 1, b, ms, hk, h1, h2, hl => by
    have hF := FU_big
    have hP := hW.2.1.1.1.2.1
    have eX := x_people hx hW (pr := k) (by omega) (wc W 2) 0 FU 0 (by omega) (by omega)
    have eM := m_people hm hW (b_X12_tariff_81 fm) (pr := k) (ly := ly) (y2 := y2) (y4 := nI b) (y5 := nI ms) (by omega) hly (wc W 2) 0 FU 0 (by omega) (by omega) (by omega)
    rw [Nat.zero_add] at eX eM
    have eX' : f_X11_peopleWhoHave (nI k) σx = _ := eX
    have eM' : b_X12_tariff_94 (b_X12_tariff_81 fm) FU y2 (nI ly) (nI b) (nI ms) (nI k) 0 0 σm = _ := eM
    have hsum : sumU (pwf W k) 0 (wc W 2) ≤ 4 := by
      have := sumU_le (f := pwf W k) 1 (wc W 2) 0 (fun i _ _ => by unfold pwf; split <;> omega)
      omega
    have hprod : k * min ly (sumU (pwf W k) 0 (wc W 2)) ≤ 99 * 4 := Nat.mul_le_mul (by omega) (by omega)
    unfold b_X11_tariff_34 b_X12_tariff_81 b_X11_tariff_71
    rw [q_ln_lt (by decide) (by omega), if_neg (by omega), q_ln_lt (by decide) (by omega), if_neg (by omega), eX', bnd, x_min (by omega) (by omega), bnd, eM', pk_mul, nI_1, q_le (by omega) (by omega), q_le (by omega) (by omega)]
    by_cases q : k * min ly (sumU (pwf W k) 0 (wc W 2)) ≤ ms
    · rw [if_pos q, if_pos q]
      exact tariff_loop hx hm hW hly y2 j (k + 1) fx fm b ms (by omega) (by omega) (by omega) hl
    · rw [if_neg q, if_neg q]
      exact tariff_loop hx hm hW hly y2 j (k + 1) fx fm _ _ (by omega) (by omega) (by omega) (by omega)
  | _, _, 0, _, _, _, _, hn, _, _ => absurd hn (Nat.not_lt_zero _)
  | _, _, _, 0, _, _, _, _, hn, _ => absurd hn (Nat.not_lt_zero _)
theorem q_tariff (hx : VX σx W) (hm : MW σm W) (hW : WW W) (x y : Int32) : Tw (f_X11_tariff x y σx) (f_X12_tariff x y σm) := by
  have hF := FU_big
  obtain ⟨⟨hK5, hP4, hN6, _⟩, _, _, hW4⟩ := hW.2.1.1
  unfold f_X11_tariff b_X11_tariff_0 b_X11_tariff_17 f_X12_tariff b_X12_tariff_0 b_X12_tariff_18
  rcases w_isKind hx.1.2.1.1 hm.1.2.1.1 (by omega) x with ⟨kd, h1, rfl, h2, h3⟩ | ⟨h2, h3⟩
  · rw [h2, h3, bnd, bnd, if_neg one_ne, if_neg one_ne]
    rcases w_what y with ⟨j, hj, rfl, g⟩ | ⟨g1, g2⟩
    · have eX := x_lying hx hW (kd := kd) (by omega) (wc W 3) 0 FU 0 (by omega) (by omega)
      have eM := m_lying hm hW (kd := kd) (by omega) (nI j) (wc W 3) 0 FU 0 (by omega) (by omega)
      rw [Nat.zero_add] at eX eM
      have eX' : f_X11_worksLying (nI kd) σx = _ := eX
      have eM' : b_X12_tariff_25 FU (nI kd) (nI j) 0 0 σm = _ := eM
      have hsum : sumU (lyf W kd) 0 (wc W 3) ≤ 6 := by
        have := sumU_le (f := lyf W kd) 1 (wc W 3) 0 (fun i _ _ => by unfold lyf; split <;> omega)
        omega
      rw [g, bnd, if_neg one_ne, if_neg (nI_pos (by omega)), q_nl_le (by decide) (by omega), if_pos hj, eX', bnd, eM']
      obtain ⟨m, hm1, hmb⟩ : ∃ m, FU = m + 1 ∧ 800000 < m := ⟨999999, rfl, by decide⟩
      have eP := m_people hm hW (b_X12_tariff_81 m) (pr := 0) (ly := sumU (lyf W kd) 0 (wc W 3)) (y2 := nI j) (y4 := 0) (y5 := 0) (by omega) (by omega) (wc W 2) 0 FU 0 (by omega) (by omega) (by omega)
      rw [Nat.zero_mul, if_pos (show nI 0 ≤ 0 by decide)] at eP
      have eP' : b_X12_tariff_94 (b_X12_tariff_81 m) FU (nI j) (nI (sumU (lyf W kd) 0 (wc W 3))) 0 0 0 0 0 σm = _ := eP
      have step : b_X12_tariff_81 FU (nI j) (nI (sumU (lyf W kd) 0 (wc W 3))) 0 0 0 σm = b_X12_tariff_81 m (nI j) (nI (sumU (lyf W kd) 0 (wc W 3))) 0 0 (nI 1) σm := by
        rw [hm1]
        conv => lhs; unfold b_X12_tariff_81
        rw [if_neg (show ¬ (99 : Int32) < 0 by decide), eP']
      rw [step]
      exact tariff_loop hx hm hW (ly := sumU (lyf W kd) 0 (wc W 3)) (by omega) (nI j) 99 1 FU m 0 0 (by omega) (by omega) (by omega) (by omega)
    · rw [g2, bnd, if_pos rfl]
      refine tw (-1) ?_ rfl
      rcases g1 with g1 | g1
      · rw [if_pos g1]
      · rw [if_neg (le1 g1), ite_self]
  · rw [h2, h3]; exact tw (-1) rfl rfl
end QQ
/-! watch -/
theorem sumU_mono {f g : Nat → Nat} : ∀ (j k : Nat), (∀ i, k ≤ i → i < k + j → f i ≤ g i) → sumU f k j ≤ sumU g k j
  | 0, _, _ => Nat.le_refl _
  | j + 1, k, h => by
    have e1 : sumU f k (j + 1) = f k + sumU f (k + 1) j := rfl
    have e2 : sumU g k (j + 1) = g k + sumU g (k + 1) j := rfl
    have := sumU_mono j (k + 1) (fun i h1 h2 => h i (by omega) (by omega))
    have := h k (by omega) (by omega)
    omega
theorem sumU_lt {f g : Nat → Nat} {i0 : Nat} : ∀ (j k : Nat), (∀ i, k ≤ i → i < k + j → f i ≤ g i) → k ≤ i0 → i0 < k + j → f i0 < g i0 → sumU f k j < sumU g k j
  | 0, _, _, h1, h2, _ => absurd h2 (by omega)
  | j + 1, k, h, h1, h2, h3 => by
    have e1 : sumU f k (j + 1) = f k + sumU f (k + 1) j := rfl
    have e2 : sumU g k (j + 1) = g k + sumU g (k + 1) j := rfl
    have hk := h k (by omega) (by omega)
    by_cases e : i0 = k
    · subst e
      have := sumU_mono j (i0 + 1) (fun i q1 q2 => h i (by omega) (by omega))
      omega
    · have := sumU_lt j (k + 1) (fun i q1 q2 => h i (by omega) (by omega)) (by omega) (by omega) h3
      omega
theorem sumU_add {f g : Nat → Nat} : ∀ (j k : Nat), sumU (fun i => f i + g i) k j = sumU f k j + sumU g k j
  | 0, _ => rfl
  | j + 1, k => by
    have e0 : sumU (fun i => f i + g i) k (j + 1) = (f k + g k) + sumU (fun i => f i + g i) (k + 1) j := rfl
    have e1 : sumU f k (j + 1) = f k + sumU f (k + 1) j := rfl
    have e2 : sumU g k (j + 1) = g k + sumU g (k + 1) j := rfl
    rw [e0, e1, e2, sumU_add j (k + 1)]
    omega
/-- how many hours come ahead of this one -/
def bfr (c : Nat → Nat) (h i : Nat) : Nat := if c i < c h ∨ (c i = c h ∧ i < h) then 1 else 0
def rk (c : Nat → Nat) (h : Nat) : Nat := sumU (bfr c h) 0 24
theorem rk_lt {c : Nat → Nat} {h h' : Nat} (hh : h < 24) (hl : c h < c h' ∨ (c h = c h' ∧ h < h')) : rk c h < rk c h' := by
  refine sumU_lt (i0 := h) 24 0 (fun i _ _ => ?_) (by omega) (by omega) ?_
  · unfold bfr
    by_cases q : c i < c h ∨ (c i = c h ∧ i < h)
    · rw [if_pos q, if_pos (by omega)]; exact Nat.le_refl _
    · rw [if_neg q]; exact Nat.zero_le _
  · unfold bfr
    rw [if_neg (by omega), if_pos hl]; exact Nat.zero_lt_one
theorem rk_inj {c : Nat → Nat} {h h' : Nat} (hh : h < 24) (hh' : h' < 24) (e : rk c h = rk c h') : h = h' := by
  rcases (by omega : c h < c h' ∨ c h' < c h ∨ (c h = c h' ∧ h < h') ∨ (c h' = c h ∧ h' < h) ∨ h = h') with q | q | q | q | q
  · have := rk_lt hh (Or.inl q); omega
  · have := rk_lt hh' (Or.inl q); omega
  · have := rk_lt hh (Or.inr q); omega
  · have := rk_lt hh' (Or.inr q); omega
  · exact q
def lss (c : Nat → Nat) (a i : Nat) : Nat := if c i < a then 1 else 0
def eqs (c : Nat → Nat) (a i : Nat) : Nat := if c i = a then 1 else 0
/-- how many have passed -/
def psd (c : Nat → Nat) (a h : Nat) : Nat := sumU (lss c a) 0 24 + sumU (eqs c a) 0 h
theorem psd_rk {c : Nat → Nat} {a h : Nat} (hh : h < 24) (e : c h = a) : psd c a h = rk c h := by
  subst e
  obtain ⟨m, hm⟩ : ∃ m, h + m = 24 := ⟨24 - h, by omega⟩
  have e2 : sumU (fun i => if c i = c h ∧ i < h then 1 else 0) 0 24 = sumU (eqs c (c h)) 0 h := by
    rw [← hm, sumU_split m h 0, sumU_zero m (0 + h) (fun i q1 q2 => by rw [if_neg (by omega)]), Nat.add_zero]
    exact sumU_cong h 0 (fun i _ q2 => by
      unfold eqs
      by_cases q : c i = c h
      · rw [if_pos ⟨q, by omega⟩, if_pos q]
      · rw [if_neg (fun z => q z.1), if_neg q])
  unfold psd rk
  rw [← e2, ← sumU_add]
  exact sumU_cong 24 0 (fun i _ _ => by
    unfold lss bfr
    by_cases q : c i < c h
    · rw [if_pos q, if_neg (by omega), if_pos (Or.inl q)]
    · rw [if_neg q]
      by_cases q2 : c i = c h ∧ i < h
      · rw [if_pos q2, if_pos (Or.inr q2)]
      · rw [if_neg q2, if_neg (fun z => z.elim q q2)])
theorem psd_s (c : Nat → Nat) (a h : Nat) : psd c a (h + 1) = psd c a h + (if c h = a then 1 else 0) := by
  have e : sumU (eqs c a) 0 (h + 1) = sumU (eqs c a) 0 h + eqs c a h := by rw [sumU_last, Nat.zero_add]
  have e2 : eqs c a h = if c h = a then 1 else 0 := rfl
  unfold psd
  rw [e, ← e2]
  omega
theorem psd_next (c : Nat → Nat) (a : Nat) : psd c a 24 = psd c (a + 1) 0 := by
  unfold psd
  rw [← sumU_add]
  show _ = sumU (lss c (a + 1)) 0 24 + 0
  rw [Nat.add_zero]
  exact sumU_cong 24 0 (fun i _ _ => by
    unfold lss eqs
    by_cases q : c i < a
    · rw [if_pos q, if_neg (by omega), if_pos (by omega)]
    · rw [if_neg q]
      by_cases q2 : c i = a
      · rw [if_pos q2, if_pos (by omega)]
      · rw [if_neg q2, if_neg (by omega)])
theorem psd_5 {c : Nat → Nat} (h : ∀ i, c i ≤ 4) : psd c 5 0 = 24 := by
  have e1 : sumU (lss c 5) 0 24 = sumU (fun _ => 1) 0 24 := sumU_cong 24 0 (fun i _ _ => by
    have := h i
    unfold lss
    rw [if_pos (by omega)])
  have e2 : sumU (fun _ => 1) 0 24 = 24 := by decide
  unfold psd
  rw [e1, e2]
  rfl
section QW
variable {σx σm : MS} {W : Wd} {c : Nat → Nat}
theorem x_watch_in {ps : Nat → Nat → Nat} (hs : ∀ a h, ps a (h + 1) = ps a h + if c h = a then 1 else 0) (hnx : ∀ a, ps a 24 = ps (a + 1) 0) (hc : ∀ h, h < 24 → c h ≤ 4 ∧ ∃ m, m < 64 ∧ f_X3_awakeAt (nI h) σx = some (nI m) ∧ pc m = c h) {k : Nat} (hk : k < 24) {a : Nat} (ha : a ≤ 4) (k29 : Int32 → Int32 → Int32 → MS → Option Int32) : ∀ (j h n : Nat), h + j = 24 → j < n → ps a h ≤ k → (∃ h', h' < 24 ∧ c h' = a ∧ ps a h' = k ∧ b_X11_watch_37 k29 n (nI k) (nI (ps a h)) (nI a) (nI h) σx = some (nI h')) ∨ (ps (a + 1) 0 ≤ k ∧ b_X11_watch_37 k29 n (nI k) (nI (ps a h)) (nI a) (nI h) σx = k29 (nI k) (nI (ps (a + 1) 0)) (nI (a + 1)) σx)
  | 0, h, n + 1, hh, _, hp => by
    have e24 : h = 24 := hh
    subst e24
    refine Or.inr ⟨?_, ?_⟩
    · rw [← hnx]; exact hp
    · unfold b_X11_watch_37
      rw [q_ln_le (by decide) (by decide), if_pos (by decide), nI_1, hnx]
  | j + 1, h, n + 1, hh, hn, hp => by
    obtain ⟨h4, m, h64, e1, e3⟩ := hc h (by omega)
    have e2 := x_bitCount m h64
    have es := hs a h
    unfold b_X11_watch_37 b_X11_watch_74
    rw [q_ln_le (by decide) (by omega), if_neg (by omega), e1, bnd, e2, bnd, e3, q_eq (by omega) (by omega), nI_1, nI_1, q_eq (by omega) (by omega)]
    by_cases q : c h = a
    · rw [if_pos q]
      by_cases q2 : ps a h = k
      · exact Or.inl ⟨h, by omega, q, q2, by rw [if_pos q2]⟩
      · rw [if_neg q2]
        rw [if_pos q] at es
        rw [← es]
        exact x_watch_in hs hnx hc hk ha k29 j (h + 1) n (by omega) (by omega) (by omega)
    · rw [if_neg q]
      rw [if_neg q] at es
      have es' : ps a h = ps a (h + 1) := by omega
      rw [es']
      exact x_watch_in hs hnx hc hk ha k29 j (h + 1) n (by omega) (by omega) (by omega)
  | _, _, 0, _, hn, _ => absurd hn (Nat.not_lt_zero _)
theorem x_watch_out {ps : Nat → Nat → Nat} (hs : ∀ a h, ps a (h + 1) = ps a h + if c h = a then 1 else 0) (hnx : ∀ a, ps a 24 = ps (a + 1) 0) (h5 : ps 5 0 = 24) (hc : ∀ h, h < 24 → c h ≤ 4 ∧ ∃ m, m < 64 ∧ f_X3_awakeAt (nI h) σx = some (nI m) ∧ pc m = c h) {k : Nat} (hk : k < 24) : ∀ (j a n : Nat), a + j = 5 → j < n → ps a 0 ≤ k → ∃ h', h' < 24 ∧ ps (c h') h' = k ∧ b_X11_watch_29 n (nI k) (nI (ps a 0)) (nI a) σx = some (nI h')
  | 0, a, n + 1, ha, _, hp => by
    exfalso
    have e5 : a = 5 := ha
    subst e5
    omega
  | j + 1, a, n + 1, ha, hn, hp => by
    have hF := FU_big
    rcases x_watch_in hs hnx hc hk (a := a) (by omega) (b_X11_watch_29 n) 24 0 FU (by omega) (by omega) hp with ⟨h', g1, g2, g3, g4⟩ | ⟨g1, g2⟩
    · refine ⟨h', g1, by rw [g2]; exact g3, ?_⟩
      unfold b_X11_watch_29
      rw [q_ln_lt (by decide) (by omega), if_neg (by omega)]
      exact g4
    · obtain ⟨h', l1, l2, l3⟩ := x_watch_out hs hnx h5 hc hk j (a + 1) n (by omega) (by omega) g1
      refine ⟨h', l1, l2, ?_⟩
      conv => lhs; unfold b_X11_watch_29
      rw [q_ln_lt (by decide) (by omega), if_neg (by omega)]
      exact g2.trans l3
  | _, _, 0, _, hn, _ => absurd hn (Nat.not_lt_zero _)
theorem m_watch_in (hc : ∀ h, h < 24 → c h ≤ 4 ∧ ∃ m, m < 64 ∧ f_X12_awakeAt (nI h) σm = some (nI m) ∧ pc m = c h) (k23 : Int32 → Int32 → MS → Option Int32) {y1 : Int32} {h : Nat} (hh : h < 24) : ∀ (j i n d : Nat), i + j = 24 → j < n → d + j < 100 → b_X12_watch_34 k23 n y1 (nI h) (nI d) (nI i) σm = (if nI (d + sumU (bfr c h) i j) = y1 then some (nI h) else k23 y1 (nI (h + 1)) σm)
  | 0, i, n + 1, d, hi, _, _ => by
    unfold b_X12_watch_34 sumU
    rw [q_ln_le (by decide) (by omega), if_pos (by omega), nI_1]
    rfl
  | j + 1, i, n + 1, d, hi, hn, hd => by
    obtain ⟨h4, m, h64, e1, e3⟩ := hc i (by omega)
    obtain ⟨h4', m', h64', e1', e3'⟩ := hc h hh
    have e : sumU (bfr c h) i (j + 1) = bfr c h i + sumU (bfr c h) (i + 1) j := rfl
    have ed : (nI (c i) - nI (c h)).toInt = (c i : Int) - c h := pk_sub_toInt (by omega) (by omega)
    have hz : (0 : Int32).toInt = 0 := by decide
    have c1 : (nI (c i) - nI (c h) < 0) ↔ c i < c h := by
      rw [Int32.lt_iff_toInt_lt, ed, hz]; omega
    have c2 : (nI (c i) - nI (c h) = 0) ↔ c i = c h := by
      rw [← Int32.toInt_inj, ed, hz]; omega
    have ih0 := m_watch_in hc k23 (y1 := y1) hh j (i + 1) n d (by omega) (by omega) (by omega)
    have ih1 := m_watch_in hc k23 (y1 := y1) hh j (i + 1) n (d + 1) (by omega) (by omega) (by omega)
    conv => lhs; unfold b_X12_watch_34 b_X12_watch_78 b_X12_watch_82 b_X12_watch_83
    rw [q_ln_le (by decide) (by omega), if_neg (by omega), e1, bnd, m_bits _ h64, bnd, e1', bnd, m_bits _ h64', bnd, e3, e3', nI_1, nI_1, Int32.add_zero, ih0, ih1, e, ite_iff (j := Nat.decLt _ _) c1, ite_iff (j := Nat.decEq _ _) c2, q_le (by omega) (by omega)]
    have eb : bfr c h i = if c i < c h ∨ (c i = c h ∧ i < h) then 1 else 0 := rfl
    by_cases q1 : c i < c h
    · rw [if_pos (Or.inl q1)] at eb
      rw [if_pos q1, eb, Nat.add_assoc]
    · rw [if_neg q1]
      by_cases q2 : c i = c h
      · rw [if_pos q2]
        by_cases q3 : h ≤ i
        · rw [if_neg (by omega)] at eb
          rw [if_pos q3, eb, Nat.zero_add]
        · rw [if_pos (by omega)] at eb
          rw [if_neg q3, eb, Nat.add_assoc]
      · rw [if_neg (by omega)] at eb
        rw [if_neg q2, eb, Nat.zero_add]
  | _, _, 0, _, _, hn, _ => absurd hn (Nat.not_lt_zero _)
theorem rk_le (c : Nat → Nat) (h : Nat) : rk c h ≤ 24 := by
  have := sumU_le (f := bfr c h) 1 24 0 (fun i _ _ => by unfold bfr; split <;> omega)
  unfold rk
  exact this
theorem m_watch_out {r : Nat → Nat} (hr1 : ∀ h, r h ≤ 24) (hri : ∀ h h', h < 24 → h' < 24 → r h = r h' → h = h') (hin : ∀ k23 k h, h < 24 → b_X12_watch_34 k23 FU (nI k) (nI h) 0 0 σm = (if nI (r h) = nI k then some (nI h) else k23 (nI k) (nI (h + 1)) σm)) {k h0 : Nat} (hk : k < 24) (hh0 : h0 < 24) (hr : r h0 = k) : ∀ (j h n : Nat), h + j = h0 → j < n → b_X12_watch_23 n (nI k) (nI h) σm = some (nI h0)
  | j, h, n + 1, hh, hn => by
    have hrl := hr1 h
    conv => lhs; unfold b_X12_watch_23
    rw [q_ln_le (by decide) (by omega), if_neg (by omega), hin _ _ _ (by omega), q_eq (by omega) (by omega)]
    by_cases q : r h = k
    · rw [if_pos q, hri h h0 (by omega) hh0 (q.trans hr.symm)]
    · rw [if_neg q]
      cases j with
      | zero => exact absurd (by rw [show h = h0 by omega]; exact hr) q
      | succ j => exact m_watch_out hr1 hri hin hk hh0 hr j (h + 1) n (by omega) (by omega)
  | _, _, 0, _, hn => absurd hn (Nat.not_lt_zero _)
theorem watch_eq (hx : ∀ h, h < 24 → c h ≤ 4 ∧ ∃ m, m < 64 ∧ f_X3_awakeAt (nI h) σx = some (nI m) ∧ pc m = c h) (hm : ∀ h, h < 24 → c h ≤ 4 ∧ ∃ m, m < 64 ∧ f_X12_awakeAt (nI h) σm = some (nI m) ∧ pc m = c h) (h4 : ∀ i, c i ≤ 4) {k : Nat} (hk : k < 24) : Tw (b_X11_watch_29 FU (nI k) 0 0 σx) (b_X12_watch_23 FU (nI k) 0 σm) := by
  have hF := FU_big
  have e0 : psd c 0 0 = 0 := by
    unfold psd
    rw [sumU_zero 24 0 (fun i _ _ => by unfold lss; rw [if_neg (by omega)])]; rfl
  obtain ⟨h', l1, l2, l3⟩ := x_watch_out (ps := psd c) (psd_s c) (psd_next c) (psd_5 h4) hx hk 5 0 FU (by omega) (by omega) (by rw [e0]; omega)
  have l2' : rk c h' = k := (psd_rk l1 rfl).symm.trans l2
  have l4 := m_watch_out (r := rk c) (rk_le c) (fun h h' q1 q2 q3 => rk_inj q1 q2 q3) (fun k23 k h hh => by
    have e := m_watch_in hm k23 (y1 := nI k) hh 24 0 FU 0 (by omega) (by omega) (by omega)
    rw [Nat.zero_add] at e
    exact e) hk l1 l2' h' 0 FU (by omega) (by omega)
  rw [e0] at l3
  exact tw _ l3 l4
theorem q_watch (hx : VX σx W) (hm : MW σm W) (hW : WW W) (x : Int32) : Tw (f_X11_watch x σx) (f_X12_watch x σm) := by
  have hF := FU_big
  have h01 := hW.1.1
  unfold f_X11_watch b_X11_watch_0 b_X11_watch_23 f_X12_watch b_X12_watch_0 b_X12_watch_19
  rw [hx.1.1, hm.1.1, q_zero (by omega), q_zero (by omega)]
  by_cases h0 : wc W 0 = 0
  · rw [if_pos h0, if_pos h0]; exact tw _ rfl rfl
  rw [if_neg h0, if_neg h0]
  rcases m_in x (l := 0) (h := 23) 0 23 (by decide) (by decide) (by decide) (by decide) with ⟨g, hin⟩ | ⟨k, _, hk, rfl, hin⟩
  · rw [hin, bnd, if_pos rfl]
    refine tw (-1) ?_ rfl
    rcases g with g | g
    · rw [if_pos (show x < 0 from g)]
    · have : ¬ x < 24 := fun q => by
        have g' : (23 : Int32) < x := g
        rw [Int32.lt_iff_toInt_lt] at q g'
        have e1 : (24 : Int32).toInt = 24 := by decide
        have e2 : (23 : Int32).toInt = 23 := by decide
        omega
      rw [if_neg this, ite_self]
  · have hP := hW.2.1.1.1.2.1
    have h4 : ∀ i, pc (awM W i) ≤ 4 := fun i => by
      have e := msk_pc (fun p => decide (asl (wL W 2 p) (wL W 3 p) i = 0)) (wc W 2) (by omega)
      have e2 := cntB_le (fun p => decide (asl (wL W 2 p) (wL W 3 p) i = 0)) (wc W 2)
      show pc (msk _ _) ≤ 4
      rw [e]
      exact Nat.le_trans e2 hP
    rw [hin, bnd, if_neg one_ne, if_neg (nI_pos (by omega)), q_nl_lt (by decide) (by omega), if_pos (by omega)]
    exact watch_eq (c := fun i => pc (awM W i)) (fun h hh => ⟨h4 h, awM W h, msk_lt64 _ (by omega), x_awakeAt hx hW (by omega), rfl⟩) (fun h hh => ⟨h4 h, awM W h, msk_lt64 _ (by omega), m_awakeAt hm hW (by omega), rfl⟩) h4 (by omega)
end QW
theorem s_18 : StpK 18 := fun t a σx σm _ hI => by
  have hI0 := hI
  obtain ⟨ow, W, Wi, RR, T, len, h1, h2, h3⟩ := hI
  exact stp_ask hI0 (q_most h1.2.2.2.1.v h2.2.2.1 h3.2.2.1.1 (a 1) (a 2))
theorem s_20 : StpK 20 := fun t a σx σm _ hI => by
  have hI0 := hI
  obtain ⟨ow, W, Wi, RR, T, len, h1, h2, h3⟩ := hI
  exact stp_ask hI0 (q_tariff h1.2.2.2.1.v h2.2.2.1 h3.2.2.1.1 (a 1) (a 2))
theorem s_23 : StpK 23 := fun t a σx σm _ hI => by
  have hI0 := hI
  obtain ⟨ow, W, Wi, RR, T, len, h1, h2, h3⟩ := hI
  exact stp_ask hI0 (q_watch h1.2.2.2.1.v h2.2.2.1 h3.2.2.1.1 (a 1))
end
