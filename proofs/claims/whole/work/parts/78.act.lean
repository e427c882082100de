/-! ===== pure: acts are kept, the class's side ===== -/
section
def ShX (σ : MS) : Prop := ∀ (i : Nat) (q : Nat × Nat), SHX[i]? = some q → i < sN σ ∧ sS σ i = q
/-- a call keeps what stands, where the shapes stand -/
def StpS (k : Nat) : Prop := ∀ (t : Nat) (a : Nat → Int32) (σx σm : MS), t < 600 → Inv t σx σm → ShX σx → ∃ r σx' σm', stepX k a σx = some (r, σx') ∧ stepM k a σm = some (r, σm') ∧ Inv (t + 1) σx' σm'
theorem StpK.s {k : Nat} (h : StpK k) : StpS k := fun t a σx σm ht hI _ => h t a σx σm ht hI
theorem ShX.world {σ : MS} (h : ShX σ) : dRt σ 22 shWorld := by
  have e : ∀ i, i < 21 → SHX[22 + i]? = some (shWorld.getD i (0, 0)) := by decide
  have h55 := (h 55 _ rfl).1
  exact ⟨by show 22 + 21 ≤ sN σ; omega, fun i hi => (h _ _ (e i hi)).2⟩
theorem ShX.now {σ : MS} (h : ShX σ) : dRt σ 35 shState := by
  have e : ∀ i, i < 4 → SHX[35 + i]? = some (shState.getD i (0, 0)) := by decide
  have h55 := (h 55 _ rfl).1
  exact ⟨by show 35 + 4 ≤ sN σ; omega, fun i hi => (h _ _ (e i hi)).2⟩
theorem sN_al (σ : MS) (kd n : Nat) : sN (al σ kd n) = sN σ + 1 := rfl
theorem sS_al (σ : MS) (kd n b : Nat) : sS (al σ kd n) b = if b = sN σ then (kd, n) else sS σ b := rfl
theorem sI_al (σ : MS) (kd n b : Nat) : sI (al σ kd n) b = if b = sN σ then (fun _ => 0) else sI σ b := rfl
theorem sR_al (σ : MS) (kd n b : Nat) : sR (al σ kd n) b = if b = sN σ then (fun _ => none) else sR σ b := rfl
theorem sN_fin (σ : MS) (a ci : Nat) : sN (fin σ a ci) = sN σ := rfl
theorem sS_fin (σ : MS) (a ci b : Nat) : sS (fin σ a ci) b = if b = a then (10 + ci, 0) else sS σ b := rfl
theorem sI_fin (σ : MS) (a ci : Nat) : sI (fin σ a ci) = sI σ := rfl
theorem sR_fin (σ : MS) (a ci : Nat) : sR (fin σ a ci) = sR σ := rfl
theorem sR_wRn (σ : MS) {a b : Nat} (k : Nat) (v : Option Nat) (h : b ≠ a) : sR (wR σ a k v) b = sR σ b := by
  funext j; rw [sR_wR, if_neg h]
theorem sR_wRs (σ : MS) (a k : Nat) (v : Option Nat) : sR (wR σ a k v) a k = v := by rw [sR_wR, if_pos rfl, if_pos rfl]
theorem sR_wRk (σ : MS) (a : Nat) {k j : Nat} (v : Option Nat) (h : j ≠ k) : sR (wR σ a k v) a j = sR σ a j := by rw [sR_wR, if_pos rfl, if_neg h]
theorem fill_loop {b n1 : Nat} {x : Int32} (hn1 : n1 < 10000) : ∀ (j k n : Nat) (σ : MS), k + j = n1 → j < n → ∃ σ', b_J7_fill_53178_5 b n1 n x (nI k) (nI n1) σ = some σ' ∧ Sm σ σ' ∧ (∀ c, c ≠ b → sI σ' c = sI σ c) ∧ (∀ i, sI σ' b i = if k ≤ i ∧ i < n1 then x else sI σ b i)
  | 0, k, n + 1, σ, hk, _ => by
    refine ⟨σ, ?_, Sm.refl σ, fun _ _ => rfl, fun i => by rw [if_neg (by omega)]⟩
    unfold b_J7_fill_53178_5
    rw [q_le (by omega) (by omega), if_pos (by omega)]
  | j + 1, k, n + 1, σ, hk, hj => by
    obtain ⟨σ', g1, g2, g3, g4⟩ := fill_loop hn1 j (k + 1) n (wI σ b k x) (by omega) (by omega)
    refine ⟨σ', ?_, ⟨g2.1, g2.2.1, g2.2.2⟩, fun c hc => by rw [g3 c hc, sI_wIn _ _ _ _ hc], fun i => ?_⟩
    · unfold b_J7_fill_53178_5
      rw [q_le (by omega) (by omega), if_neg (by omega), chk_t (in_n (show k < n1 by omega) (by omega)), ix_n (by omega), nI_1]
      exact g1
    · rw [g4 i]
      by_cases e : i = k
      · subst e; rw [if_neg (by omega), if_pos (by omega), sI_wIs]
      · rw [sI_wIk _ _ _ _ e]; exact ite_iff (by omega) _ _
  | _, _, 0, _, _, hn => absurd hn (Nat.not_lt_zero _)
theorem x_fill {b n1 : Nat} {x : Int32} (hn1 : n1 < 10000) (σ : MS) : ∃ σ', f_J7_fill_53178 b n1 x σ = some σ' ∧ Sm σ σ' ∧ (∀ c, c ≠ b → sI σ' c = sI σ c) ∧ (∀ i, sI σ' b i = if i < n1 then x else sI σ b i) := by
  obtain ⟨σ', g1, g2, g3, g4⟩ := fill_loop (b := b) (x := x) hn1 n1 0 FU σ (by omega) (by have := FU_big; omega)
  exact ⟨σ', g1, g2, g3, fun i => by rw [g4 i]; exact ite_iff (by omega) _ _⟩
/-- a state is made -/
theorem x_newState (σ : MS) (hN : sN σ + 4 ≤ 1000000) : ∃ σ', f_X8_init (sN σ) (al σ (30 + 8) 0) = some σ' ∧ sN σ' = sN σ + 4 ∧ (∀ p, p < sN σ → sS σ' p = sS σ p ∧ sI σ' p = sI σ p ∧ sR σ' p = sR σ p) ∧ dRt σ' (sN σ) shState ∧ SX (sN σ) σ' (fun _ _ => 0) := by
  obtain ⟨τ, hτ⟩ : ∃ τ, τ = wR (al (wR (al (wR (al (al σ (30 + 8) 0) 0 6) (sN σ) 0 (some (sN (al σ (30 + 8) 0)))) 0 6) (sN σ) 1 (some (sN (al σ (30 + 8) 0) + 1))) 0 4) (sN σ) 2 (some (sN (al σ (30 + 8) 0) + 2)) := ⟨_, rfl⟩
  have n1 : sN (al σ (30 + 8) 0) = sN σ + 1 := rfl
  have n2 : sN (al (al σ (30 + 8) 0) 0 6) = sN σ + 2 := rfl
  have n3 : sN (al (wR (al (al σ (30 + 8) 0) 0 6) (sN σ) 0 (some (sN (al σ (30 + 8) 0)))) 0 6) = sN σ + 3 := rfl
  have nτ : sN τ = sN σ + 4 := by rw [hτ]; rfl
  have hs : ∀ b, sS τ b = if b = sN σ + 3 then (0, 4) else if b = sN σ + 2 then (0, 6) else if b = sN σ + 1 then (0, 6) else if b = sN σ then (38, 0) else sS σ b := fun b => by rw [hτ]; rfl
  have hi : ∀ b, sI τ b = if b = sN σ + 3 then (fun _ => 0) else if b = sN σ + 2 then (fun _ => 0) else if b = sN σ + 1 then (fun _ => 0) else if b = sN σ then (fun _ => 0) else sI σ b := fun b => by rw [hτ]; rfl
  have hr0 : sR τ (sN σ) 0 = some (sN σ + 1) := by
    rw [hτ, sR_wRk _ _ _ (by decide), sR_al, if_neg (by rw [sN_wR, n3]; omega), sR_wRk _ _ _ (by decide), sR_al, if_neg (by rw [sN_wR, n2]; omega), sR_wRs, n1]
  have hr1 : sR τ (sN σ) 1 = some (sN σ + 2) := by
    rw [hτ, sR_wRk _ _ _ (by decide), sR_al, if_neg (by rw [sN_wR, n3]; omega), sR_wRs, n1]
  have hr2 : sR τ (sN σ) 2 = some (sN σ + 3) := by rw [hτ, sR_wRs, n1]
  have hrp : ∀ p, p < sN σ → sR τ p = sR σ p := fun p hp => by
    rw [hτ, sR_wRn _ _ _ (by omega), sR_al, if_neg (by rw [sN_wR, n3]; omega), sR_wRn _ _ _ (by omega), sR_al, if_neg (by rw [sN_wR, n2]; omega), sR_wRn _ _ _ (by omega), sR_al, if_neg (by rw [n1]; omega), sR_al, if_neg (by omega)]
  obtain ⟨σ2, f1, f2, f3, f4⟩ := x_fill (b := sN σ + 1) (n1 := 6) (x := -1) (by decide) τ
  have ht : tfd σ2 (sN σ) (30 + 8, 0) := ⟨by rw [f2.1, nτ]; omega, by rw [f2.2.1, hs, if_neg (by omega), if_neg (by omega), if_neg (by omega), if_pos rfl]⟩
  have hk : finOK σ2 (sN σ) 8 := fun k hk h2 => by
    rw [f2.2.2]
    rcases (by have : k < 6 := hk; omega : k = 0 ∨ k = 1 ∨ k = 2 ∨ k = 3 ∨ k = 4 ∨ k = 5) with e | e | e | e | e | e
    · subst e; exact hr0
    · subst e; exact hr1
    · subst e; exact hr2
    · subst e; exact absurd h2 (by decide)
    · subst e; exact absurd h2 (by decide)
    · subst e; exact absurd h2 (by decide)
  have hb : tfd τ (sN σ + 1) (0, 6) := ⟨by rw [nτ]; omega, by rw [hs, if_neg (by omega), if_neg (by omega), if_pos rfl]⟩
  refine ⟨fin σ2 (sN σ) 8, ?_, by rw [sN_fin, f2.1, nτ], fun p hp => ⟨?_, ?_, ?_⟩, ⟨?_, fun i hi4 => ?_⟩, ⟨fun w hw => ⟨?_, ?_⟩, fun p hp => ?_, ?_, ?_, ?_⟩⟩
  · unfold f_X8_init b_X8_init_0
    rw [chk_t (by rw [n1]; omega), chk_t (by rw [n1]; omega), chk_t (by rw [n1]; omega), ← hτ, hr0, onr_s, chk_t hb, f1, bnd, chk_t ht, chk_t hk]
  · rw [sS_fin, if_neg (by omega), f2.2.1, hs, if_neg (by omega), if_neg (by omega), if_neg (by omega), if_neg (by omega)]
  · rw [sI_fin, f3 _ (by omega), hi, if_neg (by omega), if_neg (by omega), if_neg (by omega), if_neg (by omega)]
  · rw [sR_fin, f2.2.2, hrp p hp]
  · show sN σ + 4 ≤ sN (fin σ2 (sN σ) 8)
    rw [sN_fin, f2.1, nτ]; exact Nat.le_refl _
  · have hi4 : i < 4 := hi4
    rw [sS_fin, f2.2.1, hs]
    rcases (by omega : i = 0 ∨ i = 1 ∨ i = 2 ∨ i = 3) with e | e | e | e
    · subst e; rw [if_pos (by omega)]; rfl
    · subst e; rw [if_neg (by omega), if_neg (by omega), if_neg (by omega), if_pos rfl]; rfl
    · subst e; rw [if_neg (by omega), if_neg (by omega), if_pos rfl]; rfl
    · subst e; rw [if_neg (by omega), if_pos rfl]; rfl
  · rw [sI_fin, f4, if_pos hw]; rfl
  · rw [sI_fin, f3 _ (by omega), hi, if_neg (by omega), if_pos rfl]; rfl
  · rw [sI_fin, f3 _ (by omega), hi, if_pos rfl]; rfl
  · rw [sI_fin, f3 _ (by omega), hi, if_neg (by omega), if_neg (by omega), if_neg (by omega), if_pos rfl]; rfl
  · rw [sI_fin, f3 _ (by omega), hi, if_neg (by omega), if_neg (by omega), if_neg (by omega), if_pos rfl]; rfl
  · rw [sI_fin, f3 _ (by omega), hi, if_neg (by omega), if_neg (by omega), if_neg (by omega), if_pos rfl]; rfl
/-- a state is kept in a slot -/
theorem x_keepPast {a0 a2 s : Nat} {σ : MS} {S : Row2} (hN : sN σ + 4 ≤ 1000000) (hs : s < 20) (hw : dRt σ a0 shWorld) (h2 : dRt σ a2 shState) (hS : SX a2 σ S) (hb : ∀ b, sR σ (a0 + 17) s = some b → dRt σ b shState ∧ (b + 3 < a2 ∨ a2 + 3 < b)) :
    ∃ σ' b, f_X10_keepPast a0 (nI s) a2 σ = some σ' ∧ sR σ' (a0 + 17) s = some b ∧ SX b σ' S ∧ dRt σ' b shState ∧ ((sR σ (a0 + 17) s = some b ∧ sN σ' = sN σ) ∨ (sR σ (a0 + 17) s = none ∧ b = sN σ ∧ sN σ' = sN σ + 4)) ∧ (∀ p, p < sN σ → sS σ' p = sS σ p) ∧ (∀ p, p < sN σ → (p < b ∨ b + 3 < p) → sI σ' p = sI σ p) ∧ (∀ c j, c < sN σ → (c ≠ a0 + 17 ∨ j ≠ s) → sR σ' c j = sR σ c j) := by
  have hw21 : a0 + 21 ≤ sN σ := hw.1
  have h24 : a2 + 4 ≤ sN σ := h2.1
  unfold f_X10_keepPast b_X10_keepPast_0 b_X10_keepPast_26
  rw [chk_t (in_n hs (by decide)), ix_n (by omega)]
  cases e : sR σ (a0 + 17) s with
  | some b =>
    obtain ⟨k1, k2⟩ := hb b e
    obtain ⟨σ', c1, c2, c3⟩ := x_copy (a0 := b) hS k2
    refine ⟨σ', b, ?_, by rw [c3.1.2.2]; exact e, c2, ⟨by rw [c3.1.1]; exact k1.1, fun i hi => by rw [c3.1.2.1]; exact k1.2 i hi⟩, Or.inl ⟨rfl, c3.1.1⟩, fun p _ => by rw [c3.1.2.1], fun p _ hp => c3.2 p hp, fun c j _ _ => by rw [c3.1.2.2]⟩
    rw [onr_s, chk_t k1, chk_t k1, c1, bnd]
  | none =>
    obtain ⟨σ1, n1, n2, n3, n4, n5⟩ := x_newState σ hN
    have hw1 : dRt σ1 a0 shWorld := hw.fr (by omega) (fun p hp => (n3 p hp).1)
    have h21 : dRt (wR σ1 (a0 + 17) s (some (sN σ))) a2 shState := h2.fr (σ' := wR σ1 (a0 + 17) s (some (sN σ))) (by rw [sN_wR]; omega) (fun p hp => (n3 p hp).1)
    have ht : tfd σ1 (sN σ) (10 + 8, 0) := ⟨by omega, n4.2 0 (by decide)⟩
    have hb1 : dRt (wR σ1 (a0 + 17) s (some (sN σ))) (sN σ) shState := n4
    have hS1 : SX a2 (wR σ1 (a0 + 17) s (some (sN σ))) S := hS.fr (fun b q1 q2 => by rw [sI_wR]; exact (n3 b (by omega)).2.1)
    obtain ⟨σ', c1, c2, c3⟩ := x_copy (a0 := sN σ) hS1 (by omega)
    refine ⟨σ', sN σ, ?_, by rw [c3.1.2.2, sR_wRs], c2, ⟨by rw [c3.1.1]; exact hb1.1, fun i hi => by rw [c3.1.2.1]; exact hb1.2 i hi⟩, Or.inr ⟨rfl, rfl, by rw [c3.1.1, sN_wR, n2]⟩, fun p hp => by rw [c3.1.2.1, sS_wR]; exact (n3 p hp).1, fun p hp hq => by rw [c3.2 p hq, sI_wR]; exact (n3 p hp).2.1, fun c j hc hq => ?_⟩
    · rw [onr_n, chk_t (by omega), n1, bnd, chk_t hw1, chk_t ht, chk_t (in_n hs (by decide)), chk_t h21, chk_t hb1, c1, bnd]
    · rw [c3.1.2.2, sR_wR]
      by_cases ec : c = a0 + 17
      · rw [if_pos ec, if_neg (by omega), (n3 c hc).2.2]
      · rw [if_neg ec, (n3 c hc).2.2]
/-! the world, an act kept; the world with another state -/
def wRem (W : Wd) : Wd := (up1 W.1 7 (min 20 (wc W 7 + 1)), wL W, wS W, wB W, (fun i => if i = 0 then wS W else wQ W (i - 1)), wG W)
def wPut (W : Wd) (S : Row2) : Wd := (W.1, wL W, S, wB W, wQ W, wG W)
theorem wRem_c (W : Wd) {j : Nat} (h : j ≠ 7) : wc (wRem W) j = wc W j := up1_n _ _ h
theorem wRem_7 (W : Wd) : wc (wRem W) 7 = min 20 (wc W 7 + 1) := by
  show up1 W.1 7 (min 20 (wc W 7 + 1)) 7 = _
  exact up1_s _ _ _
theorem wRem_0 (W : Wd) : wQ (wRem W) 0 = wS W := rfl
theorem wRem_s (W : Wd) {i : Nat} (h : i ≠ 0) : wQ (wRem W) i = wQ W (i - 1) := if_neg h
theorem WW.rem {W : Wd} (h : WW W) : WW (wRem W) := by
  obtain ⟨⟨w1, w2, w3, w4, w5⟩, g2, g3, g4, g5, g6⟩ := h
  unfold WW
  rw [wRem_c W (j := 0) (by decide), wRem_c W (j := 1) (by decide), wRem_c W (j := 2) (by decide), wRem_c W (j := 3) (by decide), wRem_c W (j := 4) (by decide), wRem_c W (j := 5) (by decide), wRem_c W (j := 6) (by decide), wRem_7]
  refine ⟨⟨w1, w2, w3, w4, by omega⟩, g2, g3, g4, fun i hi => ?_, g6⟩
  by_cases e : i = 0
  · subst e; exact g3
  · rw [wRem_s W e]; exact g5 (i - 1) (by omega)
theorem WW.put {W : Wd} (h : WW W) {S : Row2} (hS : WS (wc W 2) (wc W 3) S) (h9 : S 3 5 ≤ 999) : WW (wPut W S) := ⟨h.1, h.2.1, ⟨hS, h9⟩, h.2.2.2.1, h.2.2.2.2.1, h.2.2.2.2.2⟩
theorem XW.put {ow : Nat → Nat} {σ σ' : MS} {W : Wd} {S : Row2} (h : XW ow 0 22 σ W) (hf : FX 35 σ σ') (hS : SX 35 σ' S) : XW ow 0 22 σ' (wPut W S) := by
  obtain ⟨⟨h1, h2⟩, h3, h4, h5, h9, np, g1, g2, g3, g4⟩ := h
  have r : ∀ b, b < 35 ∨ 38 < b → sI σ' b = sI σ b := hf.2
  refine ⟨⟨by rw [r 23 (by decide)]; exact h1, h2.fr (fun b q1 q2 => r b (by omega))⟩, h3.fr (fun b q1 q2 => r b (by omega)), hS, by rw [r 22 (by decide)]; exact h5, ?_, np, g1, by rw [r 22 (by decide)]; exact g2, fun s hs b hb => ?_, fun i hi => ?_⟩
  · rw [r 40 (by decide), r 41 (by decide), r 42 (by decide)]; exact h9
  · rw [hf.1.2.2] at hb
    obtain ⟨k1, k2, k3⟩ := g3 s hs b hb
    exact ⟨k1, ⟨by rw [hf.1.1]; exact k2.1, fun i hi => by rw [hf.1.2.1]; exact k2.2 i hi⟩, k3⟩
  · obtain ⟨b, k1, k2⟩ := g4 i hi
    have := (g3 _ (Nat.mod_lt _ (by decide)) b k1).1
    exact ⟨b, by rw [hf.1.2.2]; exact k1, k2.fr (fun p q1 q2 => r p (by omega))⟩
theorem IX.put {t : Nat} {ow : Nat → Nat} {W : Wd} {Wi : Nat → Option Wd} {RR : List (List Cls)} {T : Nat → Nat} {len : Nat} {σ σ' : MS} {S : Row2} (h : IX t ow W Wi RR T len σ) (hR : RR.length ≤ 6) (hf : FX 35 σ σ') (hS : SX 35 σ' S) : IX t ow (wPut W S) Wi RR T len σ' :=
  h.w hR (h.2.2.2.1.put hf hS) (Nat.le_of_eq hf.1.1.symm) (by rw [hf.1.1]; exact h.1.2) (fun p _ => by rw [hf.1.2.1]) (fun b _ _ _ => by rw [hf.1.2.2]) (hf.2 1 (by decide)) (hf.2 2 (by decide)) (by rw [hf.2 0 (by decide)]) (fun p hp _ _ => hf.2 p (by omega)) (fun _ _ => rfl)
theorem IM.put {W : Wd} {Wi : Nat → Option Wd} {RR : List (List Cls)} {T : Nat → Nat} {len : Nat} {σ σ' : MS} {S : Row2} (h : IM W Wi RR T len σ) (hO : ∀ k V, k < 4 → Wi k = some V → WW V) (hf : FM σ σ') (hS : SM σ' (wc W 2) (wc W 3) S) : IM (wPut W S) Wi RR T len σ' := by
  obtain ⟨⟨a1, a2⟩, a3, ⟨a4, a5, a6⟩, ⟨a7, a8, a9, a10⟩, a11, a12⟩ := h.2.2.1
  have r : ∀ b, b ≠ 1 → b ≠ 4 → b ≠ 9 → b ≠ 10 → sI σ' b = sI σ b := hf.2.1
  refine h.w hO ⟨⟨by rw [r 0 (by decide) (by decide) (by decide) (by decide)]; exact a1, a2.fr hf⟩, hS, ⟨by rw [r 15 (by decide) (by decide) (by decide) (by decide)]; exact a4, by rw [r 16 (by decide) (by decide) (by decide) (by decide)]; exact a5, by rw [r 17 (by decide) (by decide) (by decide) (by decide)]; exact a6⟩, ⟨by rw [hf.2.2 9 (by decide) (by decide) (by decide)]; exact a7, by rw [hf.2.2 8 (by decide) (by decide) (by decide)]; exact a8, by rw [hf.2.2 7 (by decide) (by decide) (by decide)]; exact a9, by rw [r 0 (by decide) (by decide) (by decide) (by decide)]; exact a10⟩, ?_, fun i hi => ?_⟩ (fun j _ => by rw [r 0 (by decide) (by decide) (by decide) (by decide)]) (fun b hb => r b (by omega) (by omega) (by omega) (by omega)) (fun j _ => by rw [r 45 (by decide) (by decide) (by decide) (by decide)])
  · rw [r 12 (by decide) (by decide) (by decide) (by decide), r 13 (by decide) (by decide) (by decide) (by decide), r 14 (by decide) (by decide) (by decide) (by decide)]; exact a11
  · have := a12 i hi
    unfold PM at this ⊢
    rw [r 38 (by decide) (by decide) (by decide) (by decide)]; exact this
end
