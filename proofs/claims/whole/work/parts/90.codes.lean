/-! ===== pure: the reference tries rows; chains ===== -/
section
section MR
variable {N : Nat} {A : Nat → Nat} {σ : MS} {r : Nat → Nat}
theorem m_walk (k113 : Int32 → Int32 → MS → Option (Int32 × MS)) (hN : N ≤ 6) (hr : ∀ u, u < N → sI σ 41 u = hI (r u)) (hb : ∀ u, u < N → r u ≤ N) (w : Nat) : ∀ (j k n x : Nat), k + j = N → j < n → x ≤ N → b_X12_laysRow_126 k113 n (nI N) (nI w) (hI x) (nI k) σ = b_X12_laysRow_153 k113 (nI N) (nI w) (hI (it r j x)) σ
  | 0, k, n + 1, x, hk, _, hx => by
    unfold b_X12_laysRow_126
    rw [q_le (by omega) (by omega), if_pos (by omega)]; rfl
  | j + 1, k, n + 1, x, hk, hn, hx => by
    conv => lhs; unfold b_X12_laysRow_126
    rw [q_le (by omega) (by omega), if_neg (by omega), q_none (by omega)]
    by_cases h0 : x = 0
    · subst h0
      rw [if_pos rfl, it_0]
    · rw [if_neg h0, it_s r j h0, chk_t (hI_in h0 (by omega) (by decide)), hI_ix h0 (by omega), hr (x - 1) (by omega), nI_1]
      exact m_walk k113 hN hr hb w j (k + 1) n (r (x - 1)) (by omega) (by omega) (hb _ (by omega))
  | _, _, 0, _, _, hn, _ => absurd hn (Nat.not_lt_zero _)
theorem m_cyc (hN : N ≤ 6) (hr : ∀ u, u < N → sI σ 41 u = hI (r u)) (hb : ∀ u, u < N → r u ≤ N) : ∀ (j w n : Nat), w + j = N → j < n → ∃ b, b ≤ 1 ∧ b_X12_laysRow_113 n (nI N) (nI w) σ = some (nI b, σ) ∧ (b = 1 ↔ ∀ u, w ≤ u → u < N → it r N (u + 1) = 0)
  | 0, w, n + 1, hw, _ => by
    refine ⟨1, by omega, ?_, ⟨fun _ u h1 h2 => by omega, fun _ => rfl⟩⟩
    unfold b_X12_laysRow_113
    rw [q_le (by omega) (by omega), if_pos (by omega)]; rfl
  | j + 1, w, n + 1, hw, hn => by
    have hF := FU_big
    obtain ⟨b, i1, i2, i3⟩ := m_cyc hN hr hb j (w + 1) n (by omega) (by omega)
    have hin : ∀ k x, x ≤ N → it r k x ≤ N := fun k => by
      induction k with
      | zero => intro x hx; exact hx
      | succ k ih =>
        intro x hx
        by_cases h0 : x = 0
        · subst h0; rw [it_0]; omega
        · rw [it_s r k h0]; exact ih _ (hb _ (by omega))
    have hlt := hin N (w + 1) (by omega)
    have hwk := m_walk (b_X12_laysRow_113 n) hN hr hb w N 0 FU (w + 1) (by omega) (by omega) (by omega)
    rw [hI_s] at hwk
    have e : b_X12_laysRow_113 (n + 1) (nI N) (nI w) σ = if it r N (w + 1) = 0 then b_X12_laysRow_113 n (nI N) (nI (w + 1)) σ else some (0, σ) := by
      conv => lhs; unfold b_X12_laysRow_113
      rw [q_le (by omega) (by omega), if_neg (by omega), show (0 : Int32) = nI 0 from rfl, hwk]
      unfold b_X12_laysRow_153
      rw [q_none (by omega), nI_1]; rfl
    by_cases h0 : it r N (w + 1) = 0
    · refine ⟨b, i1, by rw [e, if_pos h0, i2], ⟨fun q u h1 h2 => ?_, fun q => i3.mpr (fun u h1 h2 => q u (by omega) h2)⟩⟩
      by_cases hu : u = w
      · subst hu; exact h0
      · exact i3.mp q u (by omega) h2
    · exact ⟨0, by omega, by rw [e, if_neg h0]; rfl, ⟨fun q => by omega, fun q => absurd (q w (by omega) (by omega)) h0⟩⟩
  | _, _, 0, _, hn => absurd hn (Nat.not_lt_zero _)
theorem m_begins_in (hN : N ≤ 6) (h4 : sI σ 1 4 = nI N) (hr : ∀ u, u < N → sI σ 41 u = hI (r u)) (hb : ∀ u, u < N → r u ≤ N) : ∀ (j k n : Nat), k + j = N → j < n → b_X12_beginsIn_4 41 6 n (nI (nB r k)) (nI k) σ = some (nI (nB r N))
  | 0, k, n + 1, hk, _ => by
    unfold b_X12_beginsIn_4
    rw [h4, q_le (by omega) (by omega), if_pos (by omega), show k = N by omega]
  | j + 1, k, n + 1, hk, hn => by
    have ih := m_begins_in hN h4 hr hb j (k + 1) n (by omega) (by omega)
    rw [nB_s] at ih
    have := hb k (by omega)
    unfold b_X12_beginsIn_4 b_X12_beginsIn_27
    rw [h4, q_le (by omega) (by omega), if_neg (by omega), chk_t (in_n (show k < 6 by omega) (by decide)), ix_n (by omega), hr k (by omega), q_none (by omega), nI_1]
    by_cases h0 : r k = 0
    · rw [if_pos h0] at ih
      rw [if_pos h0, nI_1, ih]
    · rw [if_neg h0] at ih
      rw [if_neg h0, show nI (nB r k) + (0 : Int32) = nI (nB r k + 0) from nI_add _ 0, nI_1, ih]
  | _, _, 0, _, hn => absurd hn (Nat.not_lt_zero _)
end MR
section ML
variable {N : Nat} {A : Nat → Nat}
theorem m_lays_loop (hN : N ≤ 6) (hA : ∀ w, w < N → A w < 64) {c : Nat} (hc : c < 2 ^ 31) : ∀ (m n used : Nat) (σ : MS), m ≤ N → m < n → sI σ 1 4 = nI N → (∀ u, u < N → sI σ 11 u = nI (A u)) → (∀ u, m ≤ u → u < N → sI σ 41 u = hI (pd (N + 1) c N u)) → (∀ u, m ≤ u → u < N → pd (N + 1) c N u ≠ 0 → bt (A u) (pd (N + 1) c N u - 1) = 1 ∧ ∀ v, u < v → v < N → pd (N + 1) c N v ≠ pd (N + 1) c N u) → used < 64 → (∀ f, f < 6 → (bt used f = 1 ↔ ∃ u, m ≤ u ∧ u < N ∧ pd (N + 1) c N u = f + 1)) →
    ∃ b σ', b ≤ 1 ∧ b_X12_laysRow_17 n (nI N) (nI (c / (N + 1) ^ (N - m))) (nI used) (hI m) σ = some (nI b, σ') ∧ (b = 1 ↔ VR A N c) ∧ Sm σ σ' ∧ (∀ x, x ≠ 41 → sI σ' x = sI σ x) ∧ (b = 1 → ∀ u, u < N → sI σ' 41 u = hI (pd (N + 1) c N u))
  | 0, n + 1, used, σ, _, _, h4, h11, hr, hok, hu, hus => by
    have hF := FU_big
    have hb : ∀ u, u < N → pd (N + 1) c N u ≤ N := fun u _ => by have := pd_lt (B := N + 1) (by omega) c N u; omega
    obtain ⟨b, i1, i2, i3⟩ := m_cyc (σ := σ) (r := pd (N + 1) c N) hN (fun u hu => hr u (by omega) hu) hb N 0 FU (by omega) (by omega)
    refine ⟨b, σ, i1, ?_, ?_, Sm.refl σ, fun _ _ => rfl, fun _ u hu => hr u (by omega) hu⟩
    · unfold b_X12_laysRow_17
      rw [if_pos hI_neg0, show (0 : Int32) = nI 0 from rfl, i2]
    · rw [i3]
      constructor
      · intro q u hu h0
        obtain ⟨k1, k2⟩ := hok u (by omega) hu h0
        refine ⟨k1, fun v hv e => ?_, (ring_iff hN hb).mp (fun w hw => q w (by omega) hw) u hu h0⟩
        exact (hok v (by omega) (by omega) (by rw [e]; exact h0)).2 u hv hu e.symm
      · intro q u _ hu
        exact (ring_iff hN hb).mpr (fun u hu h0 => (q u hu h0).2.2) u hu
  | m + 1, n + 1, used, σ, hm, hn, h4, h11, hr, hok, hu, hus => by
    generalize hR : pd (N + 1) c N = R at hr hok hus ⊢
    have hRlt : ∀ u, R u ≤ N := fun u => by
      rw [← hR]
      have := pd_lt (B := N + 1) (by omega) c N u; omega
    have hdl : c / (N + 1) ^ (N - (m + 1)) ≤ c := Nat.div_le_self _ _
    have hdig : c / (N + 1) ^ (N - (m + 1)) % (N + 1) = R m := by
      rw [← hR]; unfold pd
      rw [show N - (m + 1) = N - 1 - m by omega]
    have hrest : c / (N + 1) ^ (N - (m + 1)) / (N + 1) = c / (N + 1) ^ (N - m) := by
      rw [Nat.div_div_eq_div_mul, ← Nat.pow_succ, show Nat.succ (N - (m + 1)) = N - m by omega]
    have e1 : nI (c / (N + 1) ^ (N - (m + 1))) - nI (c / (N + 1) ^ (N - (m + 1))) / nI (N + 1) * nI (N + 1) = nI (R m) := by
      rw [pk_rem (by omega) (by omega) (by omega), hdig]
    have e2 : nI (c / (N + 1) ^ (N - (m + 1))) / nI (N + 1) = nI (c / (N + 1) ^ (N - m)) := by
      rw [pk_div (by omega) (by omega) (by omega), hrest]
    have nz : ¬ nI (N + 1) = 0 := fun e => by
      rw [n_zero (by omega)] at e; omega
    have bm : inb (nI m) 6 := in_n (by omega) (by decide)
    have hRm := hRlt m
    have e11 : sI (wI σ 41 m (hI (R m))) 11 m = nI (A m) := by rw [sI_wIn _ _ _ _ (by decide)]; exact h11 m (by omega)
    have eq17 : b_X12_laysRow_17 (n + 1) (nI N) (nI (c / (N + 1) ^ (N - (m + 1)))) (nI used) (nI m) σ = if R m = 0 then b_X12_laysRow_17 n (nI N) (nI (c / (N + 1) ^ (N - m))) (nI used) (hI m) (wI σ 41 m (hI (R m))) else (f_X12_has (nI (A m)) (hI (R m))).bind (fun r33 => if r33 = 0 then some (0, wI σ 41 m (hI (R m))) else (f_X12_has (nI used) (hI (R m))).bind (fun r36 => if r36 = 0 then b_X12_laysRow_17 n (nI N) (nI (c / (N + 1) ^ (N - m))) (nI used ||| ((1 : Int32) <<< (hI (R m) &&& 31))) (hI m) (wI σ 41 m (hI (R m))) else some (0, wI σ 41 m (hI (R m))))) := by
      conv => lhs; unfold b_X12_laysRow_17 b_X12_laysRow_104 b_X12_laysRow_88
      rw [if_neg (nI_pos (by omega)), nI_1, chk_t nz, chk_t bm, chk_t nz, chk_t bm, e1, e2, ix_n (by omega), show nI (R m) - 1 = hI (R m) from rfl, sI_wIs, e11, q_none (by omega), hI_d, chk_t bm, chk_t bm]
      by_cases h0 : R m = 0
      · rw [if_pos h0, if_pos h0]
      · rw [if_neg h0, if_neg h0]
        congr 1
        funext r33
        by_cases h1 : r33 = 0
        · rw [if_pos h1, if_pos h1]
        · rw [if_neg h1, if_neg h1, chk_t bm]
          congr 1
          funext r36
          by_cases h2 : r36 = 0
          · rw [if_pos h2, if_pos h2, chk_t bm]
          · rw [if_neg h2, if_neg h2]
    have hr' : ∀ u, m ≤ u → u < N → sI (wI σ 41 m (hI (R m))) 41 u = hI (pd (N + 1) c N u) := fun u h1 h2 => by
      rw [hR]
      by_cases e : u = m
      · subst e; rw [sI_wIs]
      · rw [sI_wIk _ _ _ _ e]; exact hr u (by omega) h2
    have fr : ∀ x, x ≠ 41 → sI (wI σ 41 m (hI (R m))) x = sI σ x := fun x hx => sI_wIn _ _ _ _ hx
    rw [hI_s, eq17]
    by_cases h0 : R m = 0
    · rw [if_pos h0]
      obtain ⟨b, σ', g1, g2, g3, g4, g5, g6⟩ := m_lays_loop hN hA hc m n used (wI σ 41 m (hI (R m))) (by omega) (by omega) (by rw [fr 1 (by decide)]; exact h4) (by rw [fr 11 (by decide)]; exact h11) hr' (fun u h1 h2 h3 => by
        rw [hR] at h3 ⊢
        by_cases e : u = m
        · subst e; exact absurd h0 h3
        · exact hok u (by omega) h2 h3) hu (fun f hf => by
        rw [hus f hf, hR]
        constructor
        · rintro ⟨u, q1, q2, q3⟩; exact ⟨u, by omega, q2, q3⟩
        · rintro ⟨u, q1, q2, q3⟩
          by_cases e : u = m
          · subst e; omega
          · exact ⟨u, by omega, q2, q3⟩)
      rw [hR] at g6
      exact ⟨b, σ', g1, g2, g3, ⟨g4.1, g4.2.1, g4.2.2⟩, fun x hx => (g5 x hx).trans (fr x hx), g6⟩
    · obtain ⟨f, hf⟩ : ∃ f, R m = f + 1 := ⟨R m - 1, by omega⟩
      have no : ¬ VR A N c → ∃ b σ', b ≤ 1 ∧ (some ((0 : Int32), wI σ 41 m (hI (R m))) : Option (Int32 × MS)) = some (nI b, σ') ∧ (b = 1 ↔ VR A N c) ∧ Sm σ σ' ∧ (∀ x, x ≠ 41 → sI σ' x = sI σ x) ∧ (b = 1 → ∀ u, u < N → sI σ' 41 u = hI (R u)) := fun hV => ⟨0, _, by omega, rfl, ⟨fun q => by omega, fun q => absurd q hV⟩, ⟨rfl, rfl, rfl⟩, fr, fun q => by omega⟩
      rw [if_neg h0, hf, hI_s, m_has (hA m (by omega)) (by omega), bnd, m_has hu (by omega), bnd, q_zero (by have := bt_lt (A m) f; omega), q_zero (by have := bt_lt used f; omega)]
      rw [hf, hI_s] at no
      by_cases c1 : bt (A m) f = 0
      · rw [if_pos c1]
        refine no (fun hV => ?_)
        have := (hV m (by omega) (by rw [hR, hf]; omega)).1
        rw [hR, hf, Nat.add_sub_cancel] at this
        omega
      · rw [if_neg c1]
        by_cases c2 : bt used f = 0
        · rw [if_pos c2, b_set _ hu f (by omega)]
          rw [hf, hI_s] at hr' fr
          obtain ⟨b, σ', g1, g2, g3, g4, g5, g6⟩ := m_lays_loop hN hA hc m n (set1 used f) (wI σ 41 m (nI f)) (by omega) (by omega) (by rw [fr 1 (by decide)]; exact h4) (by rw [fr 11 (by decide)]; exact h11) hr' (fun u h1 h2 h3 => by
            rw [hR] at h3 ⊢
            by_cases e : u = m
            · subst e
              rw [hf, Nat.add_sub_cancel]
              refine ⟨by have := bt_lt (A u) f; omega, fun v hv hv2 e => ?_⟩
              have := (hus f (by omega)).mpr ⟨v, by omega, hv2, e⟩
              omega
            · exact hok u (by omega) h2 h3) (b_set_lt _ hu f (by omega)) (fun g hg => by
            rw [b_set_bt _ hu f (by omega) g hg, hR]
            constructor
            · intro q
              by_cases e : g = f
              · subst e; exact ⟨m, by omega, by omega, hf⟩
              · rw [if_neg e] at q
                obtain ⟨u, q1, q2, q3⟩ := (hus g hg).mp q
                exact ⟨u, by omega, q2, q3⟩
            · rintro ⟨u, q1, q2, q3⟩
              by_cases e : g = f
              · rw [if_pos e]
              · rw [if_neg e]
                by_cases e2 : u = m
                · subst e2; omega
                · exact (hus g hg).mpr ⟨u, by omega, q2, q3⟩)
          rw [hR] at g6
          exact ⟨b, σ', g1, g2, g3, ⟨g4.1, g4.2.1, g4.2.2⟩, fun x hx => (g5 x hx).trans (fr x hx), g6⟩
        · rw [if_neg c2]
          refine no (fun hV => ?_)
          have h1 : bt used f = 1 := by have := bt_lt used f; omega
          obtain ⟨u, q1, q2, q3⟩ := (hus f (by omega)).mp h1
          have := (hV u q2 (by rw [hR, q3]; omega)).2.1 m (by omega)
          rw [hR, q3, hf] at this
          exact this rfl
  | _, 0, _, _, _, hn, _, _, _, _, _, _ => absurd hn (Nat.not_lt_zero _)
theorem m_lays (hN : N ≤ 6) (hA : ∀ w, w < N → A w < 64) {c : Nat} (hc : c < (N + 1) ^ N) (hc2 : c < 2 ^ 31) {σ : MS} (h4 : sI σ 1 4 = nI N) (h11 : ∀ u, u < N → sI σ 11 u = nI (A u)) : ∃ b σ', b ≤ 1 ∧ f_X12_laysRow (nI c) σ = some (nI b, σ') ∧ (b = 1 ↔ VR A N c) ∧ Sm σ σ' ∧ (∀ x, x ≠ 41 → sI σ' x = sI σ x) ∧ (b = 1 → ∀ u, u < N → sI σ' 41 u = hI (pd (N + 1) c N u)) := by
  obtain ⟨b, σ', g1, g2, g3⟩ := m_lays_loop hN hA hc2 N FU 0 σ (Nat.le_refl _) (by have := FU_big; omega) h4 h11 (fun u h1 h2 => by omega) (fun u h1 h2 => by omega) (by decide) (fun f hf => by
    have e : bt 0 f = 0 := by unfold bt; rw [Nat.zero_div]
    rw [e]
    constructor
    · intro q; omega
    · rintro ⟨u, q1, q2, _⟩; omega)
  refine ⟨b, σ', g1, ?_, g3⟩
  unfold f_X12_laysRow b_X12_laysRow_0
  rw [h4]
  rw [Nat.sub_self, Nat.pow_zero, Nat.div_one] at g2
  exact g2
def AccM (N : Nat) (acc : Nat × Nat) (σ : MS) : Prop := acc.1 ≤ 7 ∧ (acc.1 = 7 ∨ ∀ u, u < N → sI σ 42 u = hI (pd (N + 1) acc.2 N u))
theorem m_codes (hN : N ≤ 6) (hA : ∀ w, w < N → A w < 64) (hM : (N + 1) ^ N < 900000) (y1 : Int32) : ∀ (j c n : Nat) (acc : Nat × Nat) (σ : MS), c + j = (N + 1) ^ N → j < n → sI σ 1 4 = nI N → (∀ u, u < N → sI σ 11 u = nI (A u)) → AccM N acc σ →
    ∃ σ', b_X12_chains_59 n y1 (nI N) (nI ((N + 1) ^ N)) (nI acc.1) (nI c) σ = b_X12_chains_120 FU y1 (nI N) (nI (fdB (VR A N) (bgC N) c j acc).1) 0 0 σ' ∧ Sm σ σ' ∧ (∀ x, x ≠ 41 → x ≠ 42 → sI σ' x = sI σ x) ∧ AccM N (fdB (VR A N) (bgC N) c j acc) σ'
  | 0, c, n + 1, acc, σ, hj, _, h4, h11, hacc => by
    refine ⟨σ, ?_, Sm.refl σ, fun _ _ _ => rfl, hacc⟩
    conv => lhs; unfold b_X12_chains_59
    rw [q_le (by omega) (by omega), if_pos (by omega)]
    rfl
  | j + 1, c, n + 1, acc, σ, hj, hn, h4, h11, hacc => by
    have hF := FU_big
    obtain ⟨b, σ1, g1, g2, g3, g4, g5, g6⟩ := m_lays hN hA (c := c) (by omega) (by omega) h4 h11
    have hb : ∀ u, u < N → pd (N + 1) c N u ≤ N := fun u _ => by have := pd_lt (B := N + 1) (by omega) c N u; omega
    have h4' : sI σ1 1 4 = nI N := by rw [g5 1 (by decide)]; exact h4
    have h11' : ∀ u, u < N → sI σ1 11 u = nI (A u) := by rw [g5 11 (by decide)]; exact h11
    have e59 : b_X12_chains_59 (n + 1) y1 (nI N) (nI ((N + 1) ^ N)) (nI acc.1) (nI c) σ = if b = 0 then b_X12_chains_59 n y1 (nI N) (nI ((N + 1) ^ N)) (nI acc.1) (nI (c + 1)) σ1 else (f_X12_beginsIn 41 6 σ1).bind (fun r33 => if nI acc.1 ≤ r33 then b_X12_chains_59 n y1 (nI N) (nI ((N + 1) ^ N)) (nI acc.1) (nI (c + 1)) σ1 else (f_X12_beginsIn 41 6 σ1).bind (fun r35 => (f_X12_copies 41 6 42 6 σ1).bind (fun r36 => b_X12_chains_59 n y1 (nI N) (nI ((N + 1) ^ N)) r35 (nI (c + 1)) r36))) := by
      conv => lhs; unfold b_X12_chains_59 b_X12_chains_108
      rw [q_le (by omega) (by omega), if_neg (by omega), g2, bnd, nI_1, ← q_zero (k := b) (by omega)]
    rw [fdB_s, e59]
    by_cases hV : VR A N c
    · have b1 : b = 1 := g3.mpr hV
      have hbg : f_X12_beginsIn 41 6 σ1 = some (nI (bgC N c)) := by
        have := m_begins_in (σ := σ1) (r := pd (N + 1) c N) hN h4' (g6 b1) hb N 0 FU (by omega) (by omega)
        exact this
      have hble : bgC N c ≤ N := nB_le _ _
      by_cases hlt : bgC N c < acc.1
      · rw [if_pos (show VR A N c ∧ bgC N c < acc.1 from ⟨hV, hlt⟩)]
        obtain ⟨σ2, k1, k2, k3, k4⟩ := m_copies (a0 := 41) (a1 := 42) (n0 := 6) (n1 := 6) (by decide) (by decide) (by decide) σ1
        obtain ⟨σ3, l1, l2, l3, l4⟩ := m_codes hN hA hM y1 j (c + 1) n (bgC N c, c) σ2 (by omega) (by omega) (by rw [k3 1 (by decide)]; exact h4') (by rw [k3 11 (by decide)]; exact h11') ⟨by show bgC N c ≤ 7; omega, Or.inr (fun u hu => by rw [k4 u, if_pos (by omega)]; exact g6 b1 u hu)⟩
        refine ⟨σ3, ?_, g4.trans (k2.trans l2), fun x q1 q2 => by rw [l3 x q1 q2, k3 x q2, g5 x q1], l4⟩
        have := hacc.1
        rw [if_neg (show ¬ b = 0 by omega), hbg, bnd, q_le (by omega) (by omega), if_neg (by omega), bnd, k1, bnd]
        exact l1
      · rw [if_neg (show ¬ (VR A N c ∧ bgC N c < acc.1) from fun q => hlt q.2)]
        obtain ⟨σ3, l1, l2, l3, l4⟩ := m_codes hN hA hM y1 j (c + 1) n acc σ1 (by omega) (by omega) h4' h11' (by unfold AccM; rw [g5 42 (by decide)]; exact hacc)
        refine ⟨σ3, ?_, g4.trans l2, fun x q1 q2 => by rw [l3 x q1 q2, g5 x q1], l4⟩
        have := hacc.1
        rw [if_neg (show ¬ b = 0 by omega), hbg, bnd, q_le (by omega) (by omega), if_pos (by omega)]
        exact l1
    · have b0 : b = 0 := by
        rcases (by omega : b = 0 ∨ b = 1) with e | e
        · exact e
        · exact absurd (g3.mp e) hV
      rw [if_neg (show ¬ (VR A N c ∧ bgC N c < acc.1) from fun q => hV q.1)]
      obtain ⟨σ3, l1, l2, l3, l4⟩ := m_codes hN hA hM y1 j (c + 1) n acc σ1 (by omega) (by omega) h4' h11' (by unfold AccM; rw [g5 42 (by decide)]; exact hacc)
      refine ⟨σ3, ?_, g4.trans l2, fun x q1 q2 => by rw [l3 x q1 q2, g5 x q1], l4⟩
      rw [if_pos b0]
      exact l1
  | _, _, 0, _, _, _, hn, _, _, _ => absurd hn (Nat.not_lt_zero _)
theorem m_pow (hN : N ≤ 6) (y1 : Int32) (σ : MS) : ∀ (j w n : Nat), w + j = N → j < n → b_X12_chains_34 n y1 (nI N) (nI ((N + 1) ^ w)) (nI w) σ = b_X12_chains_59 FU y1 (nI N) (nI ((N + 1) ^ N)) 7 0 σ
  | 0, w, n + 1, hw, _ => by
    conv => lhs; unfold b_X12_chains_34
    rw [q_le (by omega) (by omega), if_pos (by omega), show w = N by omega]
  | j + 1, w, n + 1, hw, hn => by
    have ih := m_pow hN y1 σ j (w + 1) n (by omega) (by omega)
    conv => lhs; unfold b_X12_chains_34
    rw [q_le (by omega) (by omega), if_neg (by omega), nI_1, nI_1, pk_mul, ← Nat.pow_succ]
    exact ih
  | _, _, 0, _, hn => absurd hn (Nat.not_lt_zero _)
end ML
end
