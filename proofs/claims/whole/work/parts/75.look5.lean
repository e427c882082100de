/-! ===== pure: look, the candidates ===== -/
section
theorem msk_cnt (F : Nat → Bool) : ∀ k, msk F k = 0 ↔ cntB F k = 0
  | 0 => by simp [msk, cntB, sumU]
  | k + 1 => by
    have ih := msk_cnt F k
    have hp : 0 < 2 ^ k := Nat.pow_pos (by decide)
    rw [msk_s, cntB_s]
    by_cases h : F k = true
    · rw [if_pos h, if_pos h]; omega
    · rw [if_neg h, if_neg h, Nat.add_zero, Nat.add_zero]; exact ih
def upF (F : Nat → Bool) (q : Nat) (b : Bool) : Nat → Bool := fun p => if p = q then b else F p
def upH (Hf : Nat → Nat → Nat) (q : Nat) (H : Nat → Nat) : Nat → Nat → Nat := fun p => if p = q then H else Hf p
theorem upF_s (F : Nat → Bool) (q : Nat) (b : Bool) : upF F q b q = b := if_pos rfl
theorem upF_n (F : Nat → Bool) {q p : Nat} (b : Bool) (h : p ≠ q) : upF F q b p = F p := if_neg h
theorem upH_s (Hf : Nat → Nat → Nat) (q : Nat) (H : Nat → Nat) : upH Hf q H q = H := if_pos rfl
theorem upH_n (Hf : Nat → Nat → Nat) {q p : Nat} (H : Nat → Nat) (h : p ≠ q) : upH Hf q H p = Hf p := if_neg h
section LK
variable {t : Nat} {ow : Nat → Nat} {W : Wd} {Wi : Nat → Option Wd} {RR : List (List Cls)} {T : Nat → Nat} {len : Nat} {σm : MS}
theorem look_end (hm : IM W Wi RR T len σm) (ho : OKW W Wi RR T len) {σx σ1 : MS} (hx : IX t ow W Wi RR T len σx) (hk : KG σm σ1) {F : Nat → Bool} {Hf : Nat → Nat → Nat} {y2 : Int32}
    (hs : ∀ p, p < RR.length + 1 → F p = true → ∀ w, w < 6 → sI σx 55 (p * 6 + w) = hI (Hf p w) ∧ Hf p w ≤ wc W 2)
    (h44 : ∀ v i, v < wc W 3 → i < 5 → sI σ1 44 (5 * v + i) = nI (cA F Hf v i (RR.length + 1))) :
    ∃ r, (if nI (msk F (RR.length + 1)) = 0 then some ((-2 : Int32), σx) else (b_X11_look_91 FU (y2) (nI (msk F (RR.length + 1))) ((-2 : Int32)) ((-2 : Int32)) ((0 : Int32)) σx)) = some (r, σx) ∧ b_X12_look_146 FU y2 (nI (cntB F (RR.length + 1))) (-2) (-2) 0 σ1 = some (r, σ1) := by
  have hF := FU_big
  have hRR := ho.2.1.1
  have hW := ho.2.2.1.1
  obtain ⟨⟨hK5, hP4, hN6, _⟩, _⟩ := hW.2.1.1
  have hc := cntB_le F (RR.length + 1)
  have hml : msk F (RR.length + 1) < 128 := Nat.lt_of_lt_of_le (msk_lt F (RR.length + 1)) (Nat.pow_le_pow_right (n := 2) (by decide) (show RR.length + 1 ≤ 7 by omega))
  have x4 : sI σx 23 4 = nI (wc W 3) := hx.2.2.2.1.1.2.1.2.2.1
  have x3 : sI σx 23 3 = nI (wc W 2) := hx.2.2.2.1.1.2.1.2.1
  have x11 : sI σx 0 11 = nI RR.length := hx.2.2.1.1
  have m4 : sI σ1 1 4 = nI (wc W 3) := by rw [hk.2.2.2.1.1 4 (by decide)]; exact hm.2.2.1.1.2.1.2.2.1
  have hz := msk_cnt F (RR.length + 1)
  rw [q_zero (by omega)]
  by_cases h0 : msk F (RR.length + 1) = 0
  · have hc0 := hz.mp h0
    refine ⟨-2, by rw [if_pos h0], ?_⟩
    obtain ⟨f, hf⟩ : ∃ f, FU = f + 1 := ⟨FU - 1, by omega⟩
    rw [hf, hc0]
    unfold b_X12_look_146 b_X12_look_241 b_X12_look_252
    rw [if_pos (show nI 0 ≤ 0 by decide), ite_self, ite_self]
  · rw [if_neg h0]
    have e := look_works (σx := σx) (σm := σ1) hN6 x4 m4 (c := cntB F (RR.length + 1)) (by omega) (by omega) (m := nI (msk F (RR.length + 1))) (y2 := y2) (g := fun w i => cA F Hf w i (RR.length + 1)) (fun w hw => by
      have ea := x_alike hRR (show w < 6 by omega) x11 hP4 x3 (fun q h1 h2 => hs q h1 h2 w (by omega)) (wc W 2 + 1) 0 FU 0 (by omega) (by omega) (by omega)
      have es := mxU_split (f := fun i => cA F Hf w i (RR.length + 1)) (4 - wc W 2) (wc W 2 + 1) 0 0
      rw [show wc W 2 + 1 + (4 - wc W 2) = 5 by omega, mxU_zero (4 - wc W 2) _ _ (fun i h1 _ => by
        show cA F Hf w i (RR.length + 1) = 0
        unfold cA
        refine sumU_zero _ _ (fun q _ hq => ?_)
        unfold cAf
        refine if_neg (fun z => ?_)
        have := (hs q (by omega) z.1 w (by omega)).2
        omega)] at es
      rw [es]
      exact ea) (fun w hw i hi => ⟨h44 w i hw hi, by have := cA_le F Hf w i (RR.length + 1); omega⟩) (wc W 3) 0 FU FU (-2) (-2) (by omega) (by omega) (by omega)
    exact e
end LK
end
