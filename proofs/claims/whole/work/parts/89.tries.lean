/-! ===== pure: the class tries rows ===== -/
section
theorem hI_lt0 {x : Nat} (hx : x < 2 ^ 31) : (hI x < 0) ↔ x = 0 := by
  cases x with
  | zero => simp [hI_neg0]
  | succ y =>
    rw [hI_s]
    constructor
    · intro h; exact absurd h (nI_pos (by omega))
    · intro h; omega
theorem b_free : ∀ a, a < 64 → ∀ u, u < 64 → ∀ f, f < 6 → ((((nI a &&& (nI u ^^^ (-1 : Int32))) &&& ((1 : Int32) <<< (nI f &&& 31))) = 0) ↔ ¬ (bt a f = 1 ∧ bt u f = 0)) := by decide +kernel
theorem q_hlt0 {α : Type} {x y : α} {k : Nat} (hk : k < 2 ^ 31) : (if hI k < 0 then x else y) = if k = 0 then x else y := ite_iff (hI_lt0 hk) x y
theorem q_nh {α : Type} {x y : α} {k q : Nat} (hk : k < 2 ^ 31) (hq : q < 2 ^ 31) : (if nI k ≤ hI q then x else y) = if k < q then x else y := ite_iff (nh_le hk hq) x y
theorem q_free {α : Type} {x y : α} {a u f : Nat} (ha : a < 64) (hu : u < 64) (hf : f < 6) : (if ((nI a &&& (nI u ^^^ (-1 : Int32))) &&& ((1 : Int32) <<< (nI f &&& 31))) = 0 then x else y) = if bt a f = 1 ∧ bt u f = 0 then y else x := by
  by_cases h : bt a f = 1 ∧ bt u f = 0
  · rw [if_pos h, if_neg (fun q => (b_free a ha u hu f hf).mp q h)]
  · rw [if_neg h, if_pos ((b_free a ha u hu f hf).mpr h)]
theorem x_leads_loop {σ : MS} {r : Nat → Nat} {w : Nat} (hw : w < 6) (hr : ∀ u, u < w → sI σ 53 u = hI (r u)) (hb : ∀ u, r u ≤ 6) : ∀ (i j n x : Nat), i + j = 6 → i < n → x ≤ 6 → b_X0_leadsTo_5 n (nI w) (hI x) (nI j) σ = some (if ld r w i x = w + 1 then 1 else 0)
  | 0, j, n + 1, x, hj, _, hx => by
    unfold b_X0_leadsTo_5 b_X0_leadsTo_34 b_X0_leadsTo_44
    rw [q_ln_le (by decide) (by omega), if_pos (by omega), q_hn (by omega) (by omega)]
    show _ = some (if x = w + 1 then 1 else 0)
    by_cases e : x = w + 1
    · rw [if_pos e, if_pos e, chk_t (Or.inr rfl)]
    · rw [if_neg e, if_neg e, chk_t (Or.inl rfl)]
  | i + 1, j, n + 1, x, hj, hn, hx => by
    have e34 : b_X0_leadsTo_34 (nI w) (hI x) σ = some (if x = w + 1 then 1 else 0) := by
      unfold b_X0_leadsTo_34 b_X0_leadsTo_44
      rw [q_hn (by omega) (by omega)]
      by_cases e : x = w + 1
      · rw [if_pos e, if_pos e, chk_t (Or.inr rfl)]
      · rw [if_neg e, if_neg e, chk_t (Or.inl rfl)]
    unfold b_X0_leadsTo_5 ld
    rw [q_ln_le (by decide) (by omega), if_neg (by omega), q_hlt0 (by omega), q_nh (by omega) (by omega)]
    by_cases h0 : x = 0
    · rw [if_pos h0, if_pos (Or.inl h0), e34]
    · rw [if_neg h0]
      by_cases h1 : w < x
      · rw [if_pos h1, if_pos (Or.inr h1), e34]
      · rw [if_neg h1, if_neg (show ¬ (x = 0 ∨ w < x) by omega), chk_t (hI_in h0 (by omega) (by decide)), hI_ix h0 (by omega), hr (x - 1) (by omega), nI_1]
        exact x_leads_loop hw hr hb i (j + 1) n (r (x - 1)) (by omega) (by omega) (hb _)
  | _, _, 0, _, _, hn, _ => absurd hn (Nat.not_lt_zero _)
theorem x_leads {σ : MS} {r : Nat → Nat} {w f : Nat} (hw : w < 6) (hf : f < 6) (hr : ∀ u, u < w → sI σ 53 u = hI (r u)) (hb : ∀ u, r u ≤ 6) : f_X0_leadsTo (nI f) (nI w) σ = some (if ld r w 6 (f + 1) = w + 1 then 1 else 0) := by
  unfold f_X0_leadsTo b_X0_leadsTo_0
  rw [← hI_s f]
  exact x_leads_loop hw hr hb 6 0 FU (f + 1) (by omega) (by have := FU_big; omega) (by omega)
def SamX (σ σ' : MS) : Prop := Sm σ σ' ∧ (∀ b, b ≠ 52 → b ≠ 53 → b ≠ 54 → sI σ' b = sI σ b)
theorem SamX.refl (σ : MS) : SamX σ σ := ⟨Sm.refl σ, fun _ _ _ _ => rfl⟩
theorem SamX.trans {σ σ' σ'' : MS} (h : SamX σ σ') (g : SamX σ' σ'') : SamX σ σ'' := ⟨h.1.trans g.1, fun b h1 h2 h3 => (g.2 b h1 h2 h3).trans (h.2 b h1 h2 h3)⟩
def AccX (N : Nat) (acc : Nat × Nat) (σ : MS) : Prop := sI σ 52 2 = nI acc.1 ∧ acc.1 ≤ N + 1 ∧ (acc.1 = N + 1 ∨ ∀ u, u < N → sI σ 54 u = hI (pd (N + 1) acc.2 N u))
def bgC (N : Nat) : Nat → Nat := fun c => nB (pd (N + 1) c N) N
section TR
variable {N : Nat} {A : Nat → Nat}
/-- what the class knows as it tries: rows up to w, works that are used, how many begin -/
def TrP (N : Nat) (A : Nat → Nat) (w c used begun : Nat) (σ : MS) : Prop :=
  (sI σ 23 4 = nI N ∧ ∀ u, u < N → sI σ 30 u = nI (A u)) ∧ (∀ u, u < w → sI σ 53 u = hI (pd (N + 1) c w u)) ∧ PV A (pd (N + 1) c w) w ∧ (used < 64 ∧ ∀ f, f < 6 → (bt used f = 1 ↔ ∃ u, u < w ∧ pd (N + 1) c w u = f + 1)) ∧ begun = nB (pd (N + 1) c w) w
theorem TrP.none {w c used begun : Nat} {σ : MS} (h : TrP N A w c used begun σ) : TrP N A (w + 1) (c * (N + 1) + 0) used (begun + 1) (wI σ 53 w (-1)) := by
  obtain ⟨⟨h1, h2⟩, h3, h4, ⟨h5, h6⟩, h7⟩ := h
  have hl := pd_last (B := N + 1) (e := 0) (by omega) c w
  have hp : ∀ u, u < w → pd (N + 1) (c * (N + 1) + 0) (w + 1) u = pd (N + 1) c w u := fun u hu => pd_step (by omega) c hu
  refine ⟨⟨by rw [sI_wIn _ _ _ _ (by decide)]; exact h1, by rw [sI_wIn _ _ _ _ (by decide)]; exact h2⟩, fun u hu => ?_, fun u hu h0 => ?_, ⟨h5, fun f hf => ?_⟩, ?_⟩
  · by_cases e : u = w
    · subst e; rw [sI_wIs, hl]; rfl
    · rw [sI_wIk _ _ _ _ e, hp u (by omega)]; exact h3 u (by omega)
  · by_cases e : u = w
    · subst e; exact absurd hl h0
    · exact (h4.cong (fun v hv => (hp v hv).symm)) u (by omega) h0
  · rw [h6 f hf]
    constructor
    · rintro ⟨u, k1, k2⟩
      exact ⟨u, by omega, by rw [hp u k1]; exact k2⟩
    · rintro ⟨u, k1, k2⟩
      by_cases e : u = w
      · subst e; rw [hl] at k2; omega
      · exact ⟨u, by omega, by rw [hp u (by omega)] at k2; exact k2⟩
  · rw [nB_s, hl, if_pos rfl, nB_cong hp, h7]
theorem TrP.some {w c used begun f : Nat} {σ : MS} (h : TrP N A w c used begun σ) (hf : f < N) (hN : N ≤ 6) (k1 : bt (A w) f = 1) (k2 : bt used f = 0) (k3 : ld (pd (N + 1) c w) w 6 (f + 1) ≠ w + 1) : TrP N A (w + 1) (c * (N + 1) + (f + 1)) (set1 used f) begun (wI σ 53 w (nI f)) := by
  obtain ⟨⟨h1, h2⟩, h3, h4, ⟨h5, h6⟩, h7⟩ := h
  have hl := pd_last (B := N + 1) (e := f + 1) (by omega) c w
  have hp : ∀ u, u < w → pd (N + 1) (c * (N + 1) + (f + 1)) (w + 1) u = pd (N + 1) c w u := fun u hu => pd_step (by omega) c hu
  have nu : ∀ v, v < w → pd (N + 1) c w v ≠ f + 1 := fun v hv e => by
    have := (h6 f (by omega)).mpr ⟨v, hv, e⟩
    omega
  refine ⟨⟨by rw [sI_wIn _ _ _ _ (by decide)]; exact h1, by rw [sI_wIn _ _ _ _ (by decide)]; exact h2⟩, fun u hu => ?_, fun u hu h0 => ?_, ⟨b_set_lt _ h5 f (by omega), fun g hg => ?_⟩, ?_⟩
  · by_cases e : u = w
    · subst e; rw [sI_wIs, hl, hI_s]
    · rw [sI_wIk _ _ _ _ e, hp u (by omega)]; exact h3 u (by omega)
  · by_cases e : u = w
    · subst e
      rw [hl]
      refine ⟨k1, fun v hv => by rw [hp v hv]; exact nu v hv, ?_⟩
      rw [ld_cong hp]; exact k3
    · exact (h4.cong (fun v hv => (hp v hv).symm)) u (by omega) h0
  · rw [b_set_bt _ h5 f (by omega) g hg]
    constructor
    · intro q
      by_cases e : g = f
      · subst e; exact ⟨w, by omega, hl⟩
      · rw [if_neg e] at q
        obtain ⟨u, u1, u2⟩ := (h6 g hg).mp q
        exact ⟨u, by omega, by rw [hp u u1]; exact u2⟩
    · rintro ⟨u, u1, u2⟩
      by_cases e : g = f
      · rw [if_pos e]
      · rw [if_neg e]
        by_cases e2 : u = w
        · subst e2; rw [hl] at u2; omega
        · exact (h6 g hg).mpr ⟨u, by omega, by rw [hp u (by omega)] at u2; exact u2⟩
  · rw [nB_s, hl, if_neg (by omega), nB_cong hp, h7]; rfl
theorem TrP.sam {w c used begun : Nat} {σ σ' : MS} (h : TrP N A w c used begun σ) (hs : SamX σ σ') (hr : ∀ u, u < w → sI σ' 53 u = sI σ 53 u) : TrP N A w c used begun σ' := by
  obtain ⟨⟨h1, h2⟩, h3, h4⟩ := h
  exact ⟨⟨by rw [hs.2 23 (by decide) (by decide) (by decide)]; exact h1, by rw [hs.2 30 (by decide) (by decide) (by decide)]; exact h2⟩, fun u hu => by rw [hr u hu]; exact h3 u hu, h4⟩
theorem x_try (hN : N ≤ 6) (hA : ∀ w, w < N → A w < 64) : ∀ (d w fu c used begun : Nat) (acc : Nat × Nat) (σ : MS), w + d = N → d < fu → TrP N A w c used begun σ → AccX N acc σ →
    ∃ σ', f_X0_tryRows fu (nI w) (nI used) (nI begun) σ = some σ' ∧ SamX σ σ' ∧ (∀ u, u < w → sI σ' 53 u = sI σ 53 u) ∧ AccX N (fdB (VR A N) (bgC N) (c * (N + 1) ^ d) ((N + 1) ^ d) acc) σ'
  | d, w, fu + 1, c, used, begun, acc, σ, hd, hfu, hT, hAcc => by
    have hF := FU_big
    have hT0 := hT
    obtain ⟨⟨t1, t2⟩, t3, t4, ⟨t5, t6⟩, t7⟩ := hT
    obtain ⟨a1, a2, a3⟩ := hAcc
    have hbl : begun ≤ w := by rw [t7]; exact nB_le _ _
    have hdig : ∀ x, x < (N + 1) ^ d → ∀ u, u < w → pd (N + 1) (c * (N + 1) ^ d + x) N u = pd (N + 1) c w u := fun x hx u hu => by
      have := pd_pre (B := N + 1) (d := d) (by omega) hx c hu
      rw [hd] at this; exact this
    show ∃ σ', b_X0_tryRows_0 (f_X0_tryRows fu) (nI w) (nI used) (nI begun) σ = some σ' ∧ _
    unfold b_X0_tryRows_0
    rw [a1, q_lt (by omega) (by omega), t1, q_le (by omega) (by omega)]
    by_cases hb : begun < acc.1
    · rw [if_pos hb]
      cases d with
      | zero =>
        rw [if_pos (by omega)]
        have ew : w = N := by omega
        subst ew
        unfold b_X0_tryRows_24
        rw [i0, i6]
        have hV : VR A w c := t4
        have hbg : bgC w c = begun := t7.symm
        refine ⟨_, rfl, ⟨⟨rfl, rfl, rfl⟩, fun b q1 q2 q3 => by rw [sI_wWn _ _ _ q3, sI_wIn _ _ _ _ q1]⟩, fun u hu => by rw [sI_wWn _ _ _ (by decide), sI_wIn _ _ _ _ (by decide)], ?_⟩
        rw [Nat.pow_zero, Nat.mul_one, fdB_one ⟨hV, by rw [hbg]; exact hb⟩, hbg]
        refine ⟨by rw [sI_wWn _ _ _ (by decide), sI_wIs], by show begun ≤ w + 1; omega, Or.inr (fun u hu => ?_)⟩
        rw [sI_wWs, cpy_in (by omega), sI_wIn _ _ _ _ (by decide)]
        exact t3 u hu
      | succ d =>
        have hw6 : w < 6 := by omega
        have bw : inb (nI w) 6 := in_n hw6 (by decide)
        rw [if_neg (by omega), q_nl_lt (by decide) (by omega), if_pos hw6, chk_t bw, ix_n (by omega), nI_1, nI_1]
        obtain ⟨σ1, b1, b2, b3, b4⟩ := x_try hN hA d (w + 1) fu (c * (N + 1) + 0) used (begun + 1) acc (wI σ 53 w (-1)) (by omega) (by omega) hT0.none ⟨by rw [sI_wIn _ _ _ _ (by decide)]; exact a1, a2, by rw [sI_wIn _ _ _ _ (by decide)]; exact a3⟩
        have s1 : SamX σ σ1 := ⟨⟨b2.1.1, b2.1.2.1, b2.1.2.2⟩, fun b q1 q2 q3 => by rw [b2.2 b q1 q2 q3, sI_wIn _ _ _ _ q2]⟩
        have r1 : ∀ u, u < w → sI σ1 53 u = sI σ 53 u := fun u hu => by rw [b3 u (by omega), sI_wIk _ _ _ _ (by omega)]
        have loop : ∀ (j f g : Nat) (σ2 : MS) (acc2 : Nat × Nat), f + j = N → j < g → TrP N A w c used begun σ2 → AccX N acc2 σ2 → ∃ σ', b_X0_tryRows_69 (f_X0_tryRows fu) g (nI w) (nI used) (nI begun) (nI f) σ2 = some σ' ∧ SamX σ2 σ' ∧ (∀ u, u < w → sI σ' 53 u = sI σ2 53 u) ∧ AccX N (fdB (VR A N) (bgC N) ((c * (N + 1) + (f + 1)) * (N + 1) ^ d) (j * (N + 1) ^ d) acc2) σ' := by
          intro j
          induction j with
          | zero =>
            intro f g σ2 acc2 hf hg hT2 hA2
            obtain ⟨g, rfl⟩ : ∃ g', g = g' + 1 := ⟨g - 1, by omega⟩
            refine ⟨σ2, ?_, SamX.refl _, fun _ _ => rfl, ?_⟩
            · unfold b_X0_tryRows_69
              rw [hT2.1.1, q_le (by omega) (by omega), if_pos (by omega)]
            · rw [Nat.zero_mul]; exact hA2
          | succ j ih =>
            intro f g σ2 acc2 hf hg hT2 hA2
            obtain ⟨g, rfl⟩ : ∃ g', g = g' + 1 := ⟨g - 1, by omega⟩
            have eN : (j + 1) * (N + 1) ^ d = (N + 1) ^ d + j * (N + 1) ^ d := by rw [Nat.succ_mul, Nat.add_comm]
            have eL : (c * (N + 1) + (f + 1)) * (N + 1) ^ d + (N + 1) ^ d = (c * (N + 1) + (f + 1 + 1)) * (N + 1) ^ d := (Nat.succ_mul _ _).symm
            have eLd : f_X0_leadsTo (nI f) (nI w) σ2 = some (if ld (pd (N + 1) c w) w 6 (f + 1) = w + 1 then 1 else 0) := x_leads hw6 (by omega) hT2.2.1 (fun u => by have := pd_lt (B := N + 1) (by omega) c w u; omega)
            have hdw : ∀ x, x < (N + 1) ^ d → pd (N + 1) ((c * (N + 1) + (f + 1)) * (N + 1) ^ d + x) N w = f + 1 ∧ ∀ u, u < w → pd (N + 1) ((c * (N + 1) + (f + 1)) * (N + 1) ^ d + x) N u = pd (N + 1) c w u := fun x hx => by
              have p1 : ∀ u, u < w + 1 → pd (N + 1) ((c * (N + 1) + (f + 1)) * (N + 1) ^ d + x) N u = pd (N + 1) (c * (N + 1) + (f + 1)) (w + 1) u := fun u hu => by
                have := pd_pre (B := N + 1) (d := d) (by omega) hx (c * (N + 1) + (f + 1)) hu
                rw [show w + 1 + d = N by omega] at this; exact this
              exact ⟨by rw [p1 w (by omega), pd_last (by omega)], fun u hu => by rw [p1 u (by omega), pd_step (by omega) c hu]⟩
            -- what is not tried may not stand
            have skip : ¬ (bt (A w) f = 1 ∧ bt used f = 0 ∧ ld (pd (N + 1) c w) w 6 (f + 1) ≠ w + 1) → fdB (VR A N) (bgC N) ((c * (N + 1) + (f + 1)) * (N + 1) ^ d) ((N + 1) ^ d) acc2 = acc2 := fun hno => by
              refine fdB_skip _ _ _ _ _ (fun x hx hV => hno ?_)
              obtain ⟨p1, p2⟩ := hdw x hx
              obtain ⟨v1, v2, v3⟩ := hV.1 w (by omega) (by rw [p1]; omega)
              rw [p1] at v1 v2 v3
              refine ⟨v1, ?_, ?_⟩
              · have := bt_lt used f
                rcases (by omega : bt used f = 0 ∨ bt used f = 1) with z | z
                · exact z
                · obtain ⟨u, z1, z2⟩ := (t6 f (by omega)).mp z
                  exact absurd ((p2 u z1).trans z2) (v2 u z1)
              · rw [← ld_cong p2]; exact v3
            have go : ∃ σ3 acc3, b_X0_tryRows_69 (f_X0_tryRows fu) (g + 1) (nI w) (nI used) (nI begun) (nI f) σ2 = b_X0_tryRows_69 (f_X0_tryRows fu) g (nI w) (nI used) (nI begun) (nI (f + 1)) σ3 ∧ SamX σ2 σ3 ∧ (∀ u, u < w → sI σ3 53 u = sI σ2 53 u) ∧ AccX N acc3 σ3 ∧ acc3 = fdB (VR A N) (bgC N) ((c * (N + 1) + (f + 1)) * (N + 1) ^ d) ((N + 1) ^ d) acc2 := by
              conv => enter [1, σ3, 1, acc3, 1, 1]; unfold b_X0_tryRows_69 b_X0_tryRows_101 b_X0_tryRows_142
              rw [hT2.1.1, q_le (by omega) (by omega), if_neg (by omega), chk_t bw, ix_n (by omega), hT2.1.2 w (by omega), q_free (hA w (by omega)) t5 (by omega), nI_1]
              by_cases c1 : bt (A w) f = 1 ∧ bt used f = 0
              · rw [if_pos c1, if_neg one_ne, eLd, bnd]
                by_cases c2 : ld (pd (N + 1) c w) w 6 (f + 1) = w + 1
                · rw [if_pos c2, if_neg one_ne]
                  exact ⟨σ2, acc2, rfl, SamX.refl _, fun _ _ => rfl, hA2, (skip (fun q => q.2.2 c2)).symm⟩
                · rw [if_neg c2, if_pos rfl, chk_t bw, b_set _ t5 f (by omega), nI_1]
                  obtain ⟨σ4, e1, e2, e3, e4⟩ := x_try hN hA d (w + 1) fu (c * (N + 1) + (f + 1)) (set1 used f) begun acc2 (wI σ2 53 w (nI f)) (by omega) (by omega) (hT2.some (by omega) hN c1.1 c1.2 c2) ⟨by rw [sI_wIn _ _ _ _ (by decide)]; exact hA2.1, hA2.2.1, by rw [sI_wIn _ _ _ _ (by decide)]; exact hA2.2.2⟩
                  rw [e1, bnd]
                  exact ⟨σ4, _, rfl, ⟨⟨e2.1.1, e2.1.2.1, e2.1.2.2⟩, fun b q1 q2 q3 => by rw [e2.2 b q1 q2 q3, sI_wIn _ _ _ _ q2]⟩, fun u hu => by rw [e3 u (by omega), sI_wIk _ _ _ _ (by omega)], e4, rfl⟩
              · rw [if_neg c1, if_pos rfl]
                exact ⟨σ2, acc2, rfl, SamX.refl _, fun _ _ => rfl, hA2, (skip (fun q => c1 ⟨q.1, q.2.1⟩)).symm⟩
            obtain ⟨σ3, acc3, e1, e2, e3, e4, e5⟩ := go
            obtain ⟨σ4, f1, f2, f3, f4⟩ := ih (f + 1) g σ3 acc3 (by omega) (by omega) (hT2.sam e2 e3) e4
            refine ⟨σ4, by rw [e1]; exact f1, e2.trans f2, fun u hu => (f3 u hu).trans (e3 u hu), ?_⟩
            rw [eN, fdB_split, eL, ← e5]
            exact f4
        obtain ⟨σ2, c1, c2, c3, c4⟩ := loop N 0 FU σ1 _ (by omega) (by omega) (hT0.sam s1 r1) b4
        refine ⟨σ2, by rw [b1, bnd]; exact c1, s1.trans c2, fun u hu => (c3 u hu).trans (r1 u hu), ?_⟩
        have e1 : c * (N + 1) ^ (d + 1) = (c * (N + 1) + 0) * (N + 1) ^ d := by rw [Nat.pow_succ, show c * (N + 1) + 0 = c * (N + 1) from rfl, Nat.mul_assoc, Nat.mul_comm ((N + 1) ^ d)]
        have e2 : (N + 1) ^ (d + 1) = (N + 1) ^ d + N * (N + 1) ^ d := by rw [Nat.pow_succ, Nat.mul_succ, Nat.mul_comm _ N, Nat.add_comm]
        have e3 : (c * (N + 1) + 0) * (N + 1) ^ d + (N + 1) ^ d = (c * (N + 1) + (0 + 1)) * (N + 1) ^ d := (Nat.succ_mul _ _).symm
        rw [e1, e2, fdB_split, e3]
        exact c4
    · rw [if_neg hb]
      refine ⟨σ, rfl, SamX.refl _, fun _ _ => rfl, ?_⟩
      rw [fdB_skip _ _ _ _ _ (fun x hx hV => ?_)]
      · exact ⟨a1, a2, a3⟩
      · have h1 : nB (pd (N + 1) (c * (N + 1) ^ d + x) N) w = begun := by rw [nB_cong (hdig x hx), t7]
        have h2 := nB_mono (pd (N + 1) (c * (N + 1) ^ d + x) N) (w := w) d
        rw [hd, h1] at h2
        have h3 : nB (pd (N + 1) (c * (N + 1) ^ d + x) N) N < acc.1 := hV.2
        omega
  | _, _, 0, _, _, _, _, _, _, hfu, _, _ => absurd hfu (Nat.not_lt_zero _)
end TR
end
