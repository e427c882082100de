/-! ===== pure: the class at the begin of a fact ===== -/
section FB
variable {len : Nat} {T : Nat → Nat}
theorem x_isSign {σ : MS} {q c : Nat} {x : Int32} (hx : x = nI c) (hc : ¬ (48 ≤ c ∧ c ≤ 57) ∧ ¬ (97 ≤ c ∧ c ≤ 122) ∧ c ≠ 60 ∧ c ≠ 62 ∧ c < 256) (hT : ∀ i, i < len → T i < 256) (tk : TokX 20 T len q σ) : f_X4_isSign 20 x σ = some (nI (if q < len ∧ T q = c then 1 else 0)) := by
  subst hx
  unfold f_X4_isSign b_X4_isSign_0 b_X4_isSign_20 b_X4_isSign_21
  rcases tk with ⟨g0, g, _⟩ | ⟨g0, gd, g, _⟩ | ⟨g0, gd, g, _⟩ | ⟨gl, _, _, g2, g⟩
  · rw [g, if_neg (by decide), if_neg (by omega)]; rfl
  · rw [g, if_neg (by decide), if_neg (by omega)]; rfl
  · rw [g, if_neg (by decide), if_neg (by omega)]; rfl
  · have := hT q gl
    rw [g2, if_pos rfl]
    rcases g with ⟨ga, _, _, g5, _⟩ | ⟨_, g5, _⟩
    · rw [g5, if_neg (by rw [nI_eq (by omega) (by omega)]; omega), if_neg (by omega)]; rfl
    · rw [g5]
      by_cases e : T q = c
      · rw [if_pos (by rw [e]), if_pos ⟨gl, e⟩]; rfl
      · rw [if_neg (by rw [nI_eq (by omega) (by omega)]; exact e), if_neg (fun h => e h.2)]; rfl
/-- which link stands at q: 1 take, 2 if, 3 and, 4 or, 5 not -/
def lk (T : Nat → Nat) (len q : Nat) : Nat := wsr (mtN T len q) [9, 19, 21, 22, 20] 0
theorem mt_chr {q k : Nat} (hk : k < 23) (h : mtN T len q k = 1) : T q = chr k 0 := by
  unfold mtN at h
  split at h
  · rename_i g
    have := g.2 0 (slen_lt k hk).2
    simpa using this
  · cases h
theorem chr_5 : chr 9 0 = 116 ∧ chr 19 0 = 105 ∧ chr 21 0 = 97 ∧ chr 22 0 = 111 ∧ chr 20 0 = 110 := by decide +kernel
theorem lk_eq (T : Nat → Nat) (len q : Nat) : lk T len q = if mtN T len q 9 = 1 then 1 else if mtN T len q 19 = 1 then 2 else if mtN T len q 21 = 1 then 3 else if mtN T len q 22 = 1 then 4 else if mtN T len q 20 = 1 then 5 else 0 := rfl
theorem lk_is {q : Nat} : (lk T len q = 1 ↔ mtN T len q 9 = 1) ∧ (lk T len q = 2 ↔ mtN T len q 19 = 1) ∧ (lk T len q = 3 ↔ mtN T len q 21 = 1) ∧ (lk T len q = 4 ↔ mtN T len q 22 = 1) ∧ (lk T len q = 5 ↔ mtN T len q 20 = 1) := by
  obtain ⟨c1, c2, c3, c4, c5⟩ := chr_5
  have h1 : mtN T len q 9 = 1 → T q = 116 := fun h => by rw [mt_chr (by decide) h]; exact c1
  have h2 : mtN T len q 19 = 1 → T q = 105 := fun h => by rw [mt_chr (by decide) h]; exact c2
  have h3 : mtN T len q 21 = 1 → T q = 97 := fun h => by rw [mt_chr (by decide) h]; exact c3
  have h4 : mtN T len q 22 = 1 → T q = 111 := fun h => by rw [mt_chr (by decide) h]; exact c4
  have h5 : mtN T len q 20 = 1 → T q = 110 := fun h => by rw [mt_chr (by decide) h]; exact c5
  rw [lk_eq]
  by_cases a1 : mtN T len q 9 = 1
  · have e := h1 a1
    rw [if_pos a1]
    refine ⟨⟨fun _ => a1, fun _ => rfl⟩, ⟨fun h => (by omega), fun h => (by have := h2 h; omega)⟩, ⟨fun h => (by omega), fun h => (by have := h3 h; omega)⟩, ⟨fun h => (by omega), fun h => (by have := h4 h; omega)⟩, ⟨fun h => (by omega), fun h => (by have := h5 h; omega)⟩⟩
  · rw [if_neg a1]
    by_cases a2 : mtN T len q 19 = 1
    · have e := h2 a2
      rw [if_pos a2]
      refine ⟨⟨fun h => (by omega), fun h => absurd h a1⟩, ⟨fun _ => a2, fun _ => rfl⟩, ⟨fun h => (by omega), fun h => (by have := h3 h; omega)⟩, ⟨fun h => (by omega), fun h => (by have := h4 h; omega)⟩, ⟨fun h => (by omega), fun h => (by have := h5 h; omega)⟩⟩
    · rw [if_neg a2]
      by_cases a3 : mtN T len q 21 = 1
      · have e := h3 a3
        rw [if_pos a3]
        refine ⟨⟨fun h => (by omega), fun h => absurd h a1⟩, ⟨fun h => (by omega), fun h => absurd h a2⟩, ⟨fun _ => a3, fun _ => rfl⟩, ⟨fun h => (by omega), fun h => (by have := h4 h; omega)⟩, ⟨fun h => (by omega), fun h => (by have := h5 h; omega)⟩⟩
      · rw [if_neg a3]
        by_cases a4 : mtN T len q 22 = 1
        · have e := h4 a4
          rw [if_pos a4]
          refine ⟨⟨fun h => (by omega), fun h => absurd h a1⟩, ⟨fun h => (by omega), fun h => absurd h a2⟩, ⟨fun h => (by omega), fun h => absurd h a3⟩, ⟨fun _ => a4, fun _ => rfl⟩, ⟨fun h => (by omega), fun h => (by have := h5 h; omega)⟩⟩
        · rw [if_neg a4]
          by_cases a5 : mtN T len q 20 = 1
          · rw [if_pos a5]
            refine ⟨⟨fun h => (by omega), fun h => absurd h a1⟩, ⟨fun h => (by omega), fun h => absurd h a2⟩, ⟨fun h => (by omega), fun h => absurd h a3⟩, ⟨fun h => (by omega), fun h => absurd h a4⟩, ⟨fun _ => a5, fun _ => rfl⟩⟩
          · rw [if_neg a5]
            refine ⟨⟨fun h => (by omega), fun h => absurd h a1⟩, ⟨fun h => (by omega), fun h => absurd h a2⟩, ⟨fun h => (by omega), fun h => absurd h a3⟩, ⟨fun h => (by omega), fun h => absurd h a4⟩, ⟨fun h => (by omega), fun h => absurd h a5⟩⟩
theorem x_link (hl : len ≤ 400) (hT : ∀ i, i < len → T i < 256) {q : Nat} {σ : MS} (tx : TX len T σ) (hq : q ≤ len) (tk : TokX 20 T len q σ) (h3 : sI σ 20 3 = nI q) : f_X4_wordAmong 20 1 σ = some (hI (lk T len q)) := x_among_tok hl hT tx (k1 := 1) (by decide) hq tk h3 ok_w1 (by decide) (by decide)
theorem lk_le (T : Nat → Nat) (len q : Nat) : lk T len q ≤ 5 := wsr_le _ _ _
theorem x_opens (hl : len ≤ 400) (hT : ∀ i, i < len → T i < 256) {q : Nat} {σ : MS} (tx : TX len T σ) (hq : q ≤ len) (tk : TokX 20 T len q σ) (h3 : sI σ 20 3 = nI q) : f_X7_opensDeeper σ = some (nI (if (q < len ∧ T q = 91) ∨ mtN T len q 20 = 1 then 1 else 0)) := by
  unfold f_X7_opensDeeper b_X7_opensDeeper_0
  rw [x_isSign (x := (91 : Int32)) (c := 91) rfl (by decide) hT tk, bnd]
  by_cases c : q < len ∧ T q = 91
  · rw [if_pos c, if_neg (show ¬ nI 1 = 0 by decide), if_pos (Or.inl c)]; rfl
  · rw [if_neg c, if_pos (show nI 0 = 0 from rfl), x_link hl hT tx hq tk h3, bnd]
    have := lk_le T len q
    have hh : (hI (lk T len q) = (4 : Int32)) ↔ lk T len q = 5 := hI_n (q := 4) (by omega) (by decide)
    by_cases c2 : mtN T len q 20 = 1
    · rw [if_pos (hh.mpr (lk_is.2.2.2.2.mpr c2)), if_pos (Or.inr c2)]; rfl
    · rw [if_neg (fun h => c2 (lk_is.2.2.2.2.mp (hh.mp h))), if_neg (fun h => h.elim c c2)]; rfl
theorem CV.dp {σ : MS} {part dep v : Nat} {ws : List Nat} {cs : List Ent} (h : CV σ part dep v ws cs) (k : Nat) : CV (wI σ 17 5 (nI k)) part k v ws cs := by
  obtain ⟨h1, h2, h3, h4, h5⟩ := h
  exact ⟨by rw [sI_r, if_neg (by decide)]; exact h1, by rw [sI_r, if_pos rfl], by rw [sI_r, if_neg (by decide)]; exact h3, ⟨by rw [sI_r, if_neg (by decide)]; exact h4.1, by rw [sI_wIn _ _ _ _ (by decide)]; exact h4.2⟩, ⟨by rw [sI_r, if_neg (by decide)]; exact h5.1, by rw [sI_wIn _ _ _ _ (by decide)]; exact h5.2⟩⟩
end FB
