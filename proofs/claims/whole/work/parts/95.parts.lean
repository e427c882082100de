/-! ===== pure: the parts of a duchy's text ===== -/
section
def FrX (σ σ' : MS) : Prop := Sm σ σ' ∧ ∀ b, (b < 4 ∨ 16 < b) → sI σ' b = sI σ b
theorem FrX.refl (σ : MS) : FrX σ σ := ⟨Sm.refl σ, fun _ _ => rfl⟩
theorem FrX.trans {σ σ' σ'' : MS} (h : FrX σ σ') (g : FrX σ' σ'') : FrX σ σ'' := ⟨h.1.trans g.1, fun b hb => (g.2 b hb).trans (h.2 b hb)⟩
theorem FA.fx {σ σ' : MS} (h : FA 16 σ σ') : FrX σ σ' := ⟨h.1, fun b hb => h.2 b (by omega)⟩
theorem FrX.w (σ : MS) {a : Nat} (k : Nat) (v : Int32) (h : 4 ≤ a ∧ a ≤ 16) : FrX σ (wI σ a k v) := ⟨⟨rfl, rfl, rfl⟩, fun b hb => sI_wIn _ _ _ _ (by omega)⟩
def FrM (σ σ' : MS) : Prop := Sm σ σ' ∧ (∀ b, b ≠ 0 → (b < 18 ∨ 27 < b) → sI σ' b = sI σ b) ∧ (∀ j, j ≠ 30 → j ≠ 31 → sI σ' 0 j = sI σ 0 j)
theorem FrM.refl (σ : MS) : FrM σ σ := ⟨Sm.refl σ, fun _ _ _ => rfl, fun _ _ _ => rfl⟩
theorem FrM.trans {σ σ' σ'' : MS} (h : FrM σ σ') (g : FrM σ' σ'') : FrM σ σ'' := ⟨h.1.trans g.1, fun b h0 hb => (g.2.1 b h0 hb).trans (h.2.1 b h0 hb), fun j h1 h2 => (g.2.2 j h1 h2).trans (h.2.2 j h1 h2)⟩
theorem FR.fm {σ σ' : MS} (h : FR σ σ') : FrM σ σ' := ⟨h.1, fun b h0 _ => h.2.1 b h0, h.2.2⟩
theorem FrM.w (σ : MS) {a : Nat} (k : Nat) (v : Int32) (h : 18 ≤ a ∧ a ≤ 27) : FrM σ (wI σ a k v) := ⟨⟨rfl, rfl, rfl⟩, fun b _ hb => sI_wIn _ _ _ _ (by omega), fun j _ _ => by rw [sI_wIn _ _ _ _ (by omega)]⟩
/-- the duchy that is being told: the class's draft and the reference's new rows -/
def Dft (told K P N : Nat) (L S : Row2) (σx σm : MS) : Prop :=
  (sI σx 4 0 = nI told ∧ LX 4 σx K P N L ∧ SX 12 σx S) ∧
  (sI σm 18 0 = nI (L 7 0) ∧ sI σm 18 1 = nI (S 3 4) ∧ sI σm 18 2 = nI K ∧ sI σm 18 3 = nI P ∧ sI σm 18 4 = nI N) ∧
  (∀ k, k < K → sI σm 19 k = nI (L 0 k) ∧ sI σm 20 k = nI (L 1 k)) ∧
  (∀ p, p < P → sI σm 21 p = nI (S 2 p) ∧ sI σm 22 p = nI (L 2 p) ∧ sI σm 23 p = nI (L 3 p) ∧ sI σm 24 p = nI (L 4 p)) ∧
  (∀ w, w < N → sI σm 25 w = nI (L 5 w) ∧ sI σm 26 w = hI (S 0 w) ∧ sI σm 27 w = nI (L 6 w))
def WD (told K P N : Nat) (L S : Row2) : Prop := told ≤ 1 ∧ WL K P N L ∧ (∀ p, p < P → L 4 p ≤ 3) ∧ WS P N S ∧ S 3 5 = 0 ∧ S 3 3 = 0 ∧ (∀ w, w < 6 → S 1 w = 0)
theorem Dft.fr {told K P N : Nat} {L S : Row2} {σx σm σx' σm' : MS} (h : Dft told K P N L S σx σm) (hx : ∀ b, 4 ≤ b → b ≤ 15 → sI σx' b = sI σx b) (hm : ∀ b, 18 ≤ b → b ≤ 27 → sI σm' b = sI σm b) : Dft told K P N L S σx' σm' := by
  obtain ⟨⟨a1, a2, a3⟩, a4, a5, a6, a7⟩ := h
  refine ⟨⟨by rw [hx 4 (by omega) (by omega)]; exact a1, a2.fr (fun b q1 q2 => hx b (by omega) (by omega)), a3.fr (fun b q1 q2 => hx b (by omega) (by omega))⟩, ?_, ?_, ?_, ?_⟩
  · rw [hm 18 (by omega) (by omega)]; exact a4
  · rw [hm 19 (by omega) (by omega), hm 20 (by omega) (by omega)]; exact a5
  · rw [hm 21 (by omega) (by omega), hm 22 (by omega) (by omega), hm 23 (by omega) (by omega), hm 24 (by omega) (by omega)]; exact a6
  · rw [hm 25 (by omega) (by omega), hm 26 (by omega) (by omega), hm 27 (by omega) (by omega)]; exact a7
/-- what a part leaves: both go on, or both have the same fault -/
def Res (T : Nat → Nat) (len : Nat) (σx σm σx' σm' : MS) : Prop := FrX σx σx' ∧ FrM σm σm' ∧ ((∃ p K P N L S, LSy 16 T len p σx' σm' ∧ Dft 1 K P N L S σx' σm' ∧ WD 1 K P N L S) ∨ ∃ f, f ≠ 0 ∧ f ≤ 4000 ∧ sI σx' 16 6 = nI f ∧ FltM T len f σm')
theorem sI_r (σ : MS) (a k j : Nat) (v : Int32) : sI (wI σ a k v) a j = if j = k then v else sI σ a j := by
  by_cases e : j = k
  · subst e; rw [sI_wIs, if_pos rfl]
  · rw [sI_wIk _ _ _ _ e, if_neg e]
theorem up2_r (L : Row2) (a k j v : Nat) : up2 L a k v a j = if j = k then v else L a j := up2_a a
section PP
variable {len : Nat} {T : Nat → Nat}
theorem num3 (hl : len ≤ 400) (hT : ∀ i, i < len → T i < 256) {l0 h p : Nat} {lo hi : Int32} (elo : lo = nI l0) (ehi : hi = hI h) (hl0 : l0 ≤ 1) (hh : h ≤ 10000) {σx σm : MS} (L : LSy 16 T len p σx σm) :
    (∃ v p' σx' σm', l0 ≤ v ∧ v < h ∧ f_X2_readNumber lo hi σx = some (nI v, σx') ∧ f_X12_amount lo hi σm = some (nI v, σm') ∧ FA 16 σx σx' ∧ FR σm σm' ∧ LSy 16 T len p' σx' σm' ∧ sI σx' 16 3 = nI (skB T len p)) ∨
    (∃ r1 r2 f σx' σm', f ≠ 0 ∧ f ≤ 4000 ∧ f_X2_readNumber lo hi σx = some (r1, σx') ∧ f_X12_amount lo hi σm = some (r2, σm') ∧ FA 16 σx σx' ∧ FR σm σm' ∧ sI σx' 16 6 = nI f ∧ FltM T len f σm') := by
  subst elo ehi
  exact num2 hl hT hl0 hh L
/-! duchy -/
theorem part_0 (hl : len ≤ 400) (hT : ∀ i, i < len → T i < 256) {p K P N told : Nat} {L S : Row2} {σx σm : MS} (Ls : LSy 16 T len p σx σm) (D : Dft told K P N L S σx σm) (hW : WD told K P N L S) : ∃ σx' σm', f_X2_readDuchy σx = some σx' ∧ f_X12_duchyPart (nI 0) σm = some σm' ∧ Res T len σx σm σx' σm' := by
  unfold f_X2_readDuchy b_X2_readDuchy_0 f_X12_duchyPart b_X12_duchyPart_0 b_X12_duchyPart_183
  rw [if_pos (show nI 0 = 0 from rfl)]
  have L0 : LSy 16 T len p (wI σx 4 0 1) σm := Ls.x (sI_wIn _ _ _ _ (by decide)) (sI_wIn _ _ _ _ (by decide)) (sI_wIn _ _ _ _ (by decide))
  rcases num3 hl hT (l0 := 0) (h := 100) (lo := 0) (hi := 99) rfl (by decide) (by omega) (by omega) L0 with ⟨v, p1, σx1, σm1, a1, a2, a3, a4, a5, a6, a7, _⟩ | ⟨r1, r2, f, σx1, σm1, a1, a2, a3, a4, a5, a6, a7, a8⟩
  · rw [a3, a4, bnd, bnd]
    have L1 : LSy 16 T len p1 (wI σx1 4 1 (nI v)) (wI σm1 18 0 (nI v)) := (a7.x (sI_wIn _ _ _ _ (by decide)) (sI_wIn _ _ _ _ (by decide)) (sI_wIn _ _ _ _ (by decide))).m (sI_wIn _ _ _ _ (by decide)) (sI_wIn _ _ _ _ (by decide))
    rcases num3 hl hT (l0 := 0) (h := 10000) (lo := 0) (hi := 9999) rfl (by decide) (by omega) (by omega) L1 with ⟨v2, p2, σx2, σm2, b1, b2, b3, b4, b5, b6, b7, _⟩ | ⟨r1, r2, f, σx2, σm2, b1, b2, b3, b4, b5, b6, b7, b8⟩
    · have fx : FrX σx (wI σx2 12 4 (nI v2)) := (FrX.w σx 0 1 (by decide)).trans (a5.fx.trans ((FrX.w σx1 1 _ (by decide)).trans (b5.fx.trans (FrX.w σx2 4 _ (by decide)))))
      have fm : FrM σm (wI σm2 18 1 (nI v2)) := a6.fm.trans ((FrM.w σm1 0 _ (by decide)).trans (b6.fm.trans (FrM.w σm2 1 _ (by decide))))
      refine ⟨wI σx2 12 4 (nI v2), wI σm2 18 1 (nI v2), by rw [b3]; rfl, by rw [b4]; rfl, fx, fm, Or.inl ⟨p2, K, P, N, up2 L 7 0 v, up2 S 3 4 v2, (b7.x (sI_wIn _ _ _ _ (by decide)) (sI_wIn _ _ _ _ (by decide)) (sI_wIn _ _ _ _ (by decide))).m (sI_wIn _ _ _ _ (by decide)) (sI_wIn _ _ _ _ (by decide)), ?_, ?_⟩⟩
      · obtain ⟨⟨d1, ⟨⟨l1, l2, l3, l4⟩, l5, l6, l7⟩, d3⟩, ⟨d4, d5, d6, d7, d8⟩, d9, d10, d11⟩ := D
        have rx : ∀ b, 5 ≤ b → b ≤ 15 → b ≠ 12 → sI (wI σx2 12 4 (nI v2)) b = sI σx b := fun b q1 q2 q3 => by rw [sI_wIn _ _ _ _ q3, b5.2 b (by omega), sI_wIn _ _ _ _ (by omega), a5.2 b (by omega), sI_wIn _ _ _ _ (by omega)]
        have r4 : ∀ j, sI (wI σx2 12 4 (nI v2)) 4 j = if j = 1 then nI v else if j = 0 then 1 else sI σx 4 j := fun j => by rw [sI_wIn _ _ _ _ (by decide), b5.2 4 (by decide), sI_r, a5.2 4 (by decide), sI_r]
        have rm : ∀ b, 19 ≤ b → b ≤ 27 → sI (wI σm2 18 1 (nI v2)) b = sI σm b := fun b q1 q2 => by rw [sI_wIn _ _ _ _ (by omega), b6.2.1 b (by omega), sI_wIn _ _ _ _ (by omega), a6.2.1 b (by omega)]
        have r18 : ∀ j, sI (wI σm2 18 1 (nI v2)) 18 j = if j = 1 then nI v2 else if j = 0 then nI v else sI σm 18 j := fun j => by rw [sI_r, b6.2.1 18 (by decide), sI_r, a6.2.1 18 (by decide)]
        have uL : ∀ a j, a ≠ 7 → up2 L 7 0 v a j = L a j := fun a j h => up2_n _ _ _ _ h
        have uS : ∀ a j, a ≠ 3 → up2 S 3 4 v2 a j = S a j := fun a j h => up2_n _ _ _ _ h
        refine ⟨⟨by rw [r4]; rfl, ⟨⟨by rw [r4]; exact l1, by rw [r4]; exact l2, by rw [r4]; exact l3, by rw [r4, up2_s]; rfl⟩, fun k hk => ?_, fun q hq => ?_, fun w hw => ?_⟩, ?_⟩, ⟨by rw [r18, up2_s]; rfl, by rw [r18, up2_s]; rfl, by rw [r18]; exact d6, by rw [r18]; exact d7, by rw [r18]; exact d8⟩, fun k hk => ?_, fun q hq => ?_, fun w hw => ?_⟩
        · rw [rx _ (by omega) (by omega) (by omega), rx _ (by omega) (by omega) (by omega), uL _ _ (by decide), uL _ _ (by decide)]; exact l5 k hk
        · rw [rx _ (by omega) (by omega) (by omega), rx _ (by omega) (by omega) (by omega), rx _ (by omega) (by omega) (by omega), uL _ _ (by decide), uL _ _ (by decide), uL _ _ (by decide)]; exact l6 q hq
        · rw [rx _ (by omega) (by omega) (by omega), rx _ (by omega) (by omega) (by omega), uL _ _ (by decide), uL _ _ (by decide)]; exact l7 w hw
        · have : SX 12 σx2 S := d3.fr (fun b q1 q2 => by rw [b5.2 b (by omega), sI_wIn _ _ _ _ (by omega), a5.2 b (by omega), sI_wIn _ _ _ _ (by omega)])
          exact this.fld 4 v2 rfl
        · rw [rm _ (by omega) (by omega), rm _ (by omega) (by omega), uL _ _ (by decide), uL _ _ (by decide)]; exact d9 k hk
        · rw [rm _ (by omega) (by omega), rm _ (by omega) (by omega), rm _ (by omega) (by omega), rm _ (by omega) (by omega), uS _ _ (by decide), uL _ _ (by decide), uL _ _ (by decide), uL _ _ (by decide)]; exact d10 q hq
        · rw [rm _ (by omega) (by omega), rm _ (by omega) (by omega), rm _ (by omega) (by omega), uL _ _ (by decide), uS _ _ (by decide), uL _ _ (by decide)]; exact d11 w hw
      · obtain ⟨w1, ⟨⟨w2, w3, w4, w5⟩, w6, w7, w8⟩, w9, w10, w11, w12, w13⟩ := hW
        exact ⟨by omega, ⟨⟨w2, w3, w4, by rw [up2_s]; omega⟩, w6, w7, w8⟩, w9, w10.chst (by omega), w11, w12, w13⟩
    · refine ⟨wI σx2 12 4 r1, wI σm2 18 1 r2, by rw [b3]; rfl, by rw [b4]; rfl, (FrX.w σx 0 1 (by decide)).trans (a5.fx.trans ((FrX.w σx1 1 _ (by decide)).trans (b5.fx.trans (FrX.w σx2 4 _ (by decide))))), a6.fm.trans ((FrM.w σm1 0 _ (by decide)).trans (b6.fm.trans (FrM.w σm2 1 _ (by decide)))), Or.inr ⟨f, b1, b2, by rw [sI_wIn _ _ _ _ (by decide)]; exact b7, b8.m (sI_wIn _ _ _ _ (by decide)) (sI_wIn _ _ _ _ (by decide))⟩⟩
  · rw [a3, a4, bnd, bnd]
    have z6 : sI (wI σx1 4 1 r1) 16 6 = nI f := by rw [sI_wIn _ _ _ _ (by decide)]; exact a7
    obtain ⟨σm2, b1, b2, b3⟩ := m_amountF hl hT a1 a2 (a8.m (σm' := wI σm1 18 0 r2) (sI_wIn _ _ _ _ (by decide)) (sI_wIn _ _ _ _ (by decide))) 0 9999
    refine ⟨wI (wI σx1 4 1 r1) 12 4 (-1), wI σm2 18 1 0, by rw [x_numF a1 a2 z6]; rfl, by rw [b1]; rfl, (FrX.w σx 0 1 (by decide)).trans (a5.fx.trans ((FrX.w σx1 1 _ (by decide)).trans (FrX.w _ 4 _ (by decide)))), a6.fm.trans ((FrM.w σm1 0 _ (by decide)).trans (b2.fm.trans (FrM.w σm2 1 _ (by decide)))), Or.inr ⟨f, a1, a2, by rw [sI_wIn _ _ _ _ (by decide)]; exact z6, b3.m (sI_wIn _ _ _ _ (by decide)) (sI_wIn _ _ _ _ (by decide))⟩⟩
/-! kind -/
theorem part_1 (hl : len ≤ 400) (hT : ∀ i, i < len → T i < 256) {p K P N : Nat} {L S : Row2} {σx σm : MS} (Ls : LSy 16 T len p σx σm) (D : Dft 1 K P N L S σx σm) (hW : WD 1 K P N L S) (hK : K < 5) : ∃ σx' σm', f_X2_readKind σx = some σx' ∧ f_X12_duchyPart (nI 1) σm = some σm' ∧ Res T len σx σm σx' σm' := by
  have e182 : sI σm 18 2 = nI K := D.2.1.2.2.1
  have bk : inb (nI K) 5 := in_n hK (by decide)
  unfold f_X2_readKind b_X2_readKind_0 b_X2_readKind_35 f_X12_duchyPart b_X12_duchyPart_0 b_X12_duchyPart_183
  rw [if_neg (show ¬ nI 1 = (0 : Int32) by decide), if_pos (show nI 1 = (1 : Int32) from rfl), e182, ix_n (by omega)]
  rcases num3 hl hT (l0 := 0) (h := 100) (lo := 0) (hi := 99) rfl (by decide) (by omega) (by omega) Ls with ⟨v, p1, σx1, σm1, a1, a2, a3, a4, a5, a6, a7, _⟩ | ⟨r1, r2, f, σx1, σm1, a1, a2, a3, a4, a5, a6, a7, a8⟩
  · rw [a3, a4, bnd, bnd, chk_t bk]
    have L1 : LSy 16 T len p1 σx1 (wI σm1 19 K (nI v)) := a7.m (sI_wIn _ _ _ _ (by decide)) (sI_wIn _ _ _ _ (by decide))
    rcases num3 hl hT (l0 := 0) (h := 10) (lo := 0) (hi := 9) rfl (by decide) (by omega) (by omega) L1 with ⟨v2, p2, σx2, σm2, b1, b2, b3, b4, b5, b6, b7, _⟩ | ⟨r1, r2, f, σx2, σm2, b1, b2, b3, b4, b5, b6, b7, b8⟩
    · obtain ⟨⟨d1, ⟨⟨l1, l2, l3, l4⟩, l5, l6, l7⟩, d3⟩, ⟨d4, d5, d6, d7, d8⟩, d9, d10, d11⟩ := D
      have rx2 : ∀ b, b ≠ 16 → sI σx2 b = sI σx b := fun b hb => by rw [b5.2 b hb, a5.2 b hb]
      have e42 : sI σx2 4 2 = nI K := by rw [rx2 4 (by decide)]; exact l1
      have eadd : f_X3_addKind (nI v) (nI v2) σx2 = some (wI (wI (wI σx2 5 K (nI v)) 6 K (nI v2)) 4 2 (nI (K + 1))) := by
        unfold f_X3_addKind b_X3_addKind_0 b_X3_addKind_38
        have g1 : sI (wI σx2 5 K (nI v)) 4 2 = nI K := by rw [sI_wIn _ _ _ _ (by decide)]; exact e42
        have g2 : sI (wI (wI σx2 5 K (nI v)) 6 K (nI v2)) 4 2 = nI K := by rw [sI_wIn _ _ _ _ (by decide)]; exact g1
        rw [e42, q_ln_le (by decide) (by omega), if_neg (by omega), chk_t bk, ix_n (by omega), g1, chk_t bk, ix_n (by omega), g2, nI_1]
      have r182 : sI (wI σm2 20 K (nI v2)) 18 2 = nI K := by rw [sI_wIn _ _ _ _ (by decide), b6.2.1 18 (by decide), sI_wIn _ _ _ _ (by decide), a6.2.1 18 (by decide)]; exact d6
      have fx : FrX σx (wI (wI (wI σx2 5 K (nI v)) 6 K (nI v2)) 4 2 (nI (K + 1))) := a5.fx.trans (b5.fx.trans ((FrX.w _ _ _ (by decide)).trans ((FrX.w _ _ _ (by decide)).trans (FrX.w _ _ _ (by decide)))))
      have fm : FrM σm (wI (wI σm2 20 K (nI v2)) 18 2 (nI (K + 1))) := a6.fm.trans ((FrM.w _ _ _ (by decide)).trans (b6.fm.trans ((FrM.w _ _ _ (by decide)).trans (FrM.w _ _ _ (by decide)))))
      refine ⟨_, _, by rw [b3, bnd, b7.2.2.2.2.2.1, if_pos rfl, eadd]; rfl, by rw [b4, bnd, chk_t bk, r182, nI_1], fx, fm, Or.inl ⟨p2, K + 1, P, N, up2 (up2 L 0 K v) 1 K v2, S, ?_, ?_, ?_⟩⟩
      · refine (b7.x ?_ ?_ ?_).m ?_ ?_
        · rw [sI_wIn _ _ _ _ (by decide), sI_wIn _ _ _ _ (by decide), sI_wIn _ _ _ _ (by decide)]
        · rw [sI_wIn _ _ _ _ (by decide), sI_wIn _ _ _ _ (by decide), sI_wIn _ _ _ _ (by decide)]
        · rw [sI_wIn _ _ _ _ (by decide), sI_wIn _ _ _ _ (by decide), sI_wIn _ _ _ _ (by decide)]
        · rw [sI_wIn _ _ _ _ (by decide), sI_wIn _ _ _ _ (by decide)]
        · rw [sI_wIn _ _ _ _ (by decide), sI_wIn _ _ _ _ (by decide)]
      · have rx : ∀ b, 7 ≤ b → b ≤ 15 → sI (wI (wI (wI σx2 5 K (nI v)) 6 K (nI v2)) 4 2 (nI (K + 1))) b = sI σx b := fun b q1 q2 => by rw [sI_wIn _ _ _ _ (by omega), sI_wIn _ _ _ _ (by omega), sI_wIn _ _ _ _ (by omega), rx2 b (by omega)]
        have r4 : ∀ j, sI (wI (wI (wI σx2 5 K (nI v)) 6 K (nI v2)) 4 2 (nI (K + 1))) 4 j = if j = 2 then nI (K + 1) else sI σx 4 j := fun j => by rw [sI_r, sI_wIn _ _ _ _ (by decide), sI_wIn _ _ _ _ (by decide), rx2 4 (by decide)]
        have r5 : ∀ j, sI (wI (wI (wI σx2 5 K (nI v)) 6 K (nI v2)) 4 2 (nI (K + 1))) 5 j = if j = K then nI v else sI σx 5 j := fun j => by rw [sI_wIn _ _ _ _ (by decide), sI_wIn _ _ _ _ (by decide), sI_r, rx2 5 (by decide)]
        have r6 : ∀ j, sI (wI (wI (wI σx2 5 K (nI v)) 6 K (nI v2)) 4 2 (nI (K + 1))) 6 j = if j = K then nI v2 else sI σx 6 j := fun j => by rw [sI_wIn _ _ _ _ (by decide), sI_r, sI_wIn _ _ _ _ (by decide), rx2 6 (by decide)]
        have rm : ∀ b, 21 ≤ b → b ≤ 27 → sI (wI (wI σm2 20 K (nI v2)) 18 2 (nI (K + 1))) b = sI σm b := fun b q1 q2 => by rw [sI_wIn _ _ _ _ (by omega), sI_wIn _ _ _ _ (by omega), b6.2.1 b (by omega), sI_wIn _ _ _ _ (by omega), a6.2.1 b (by omega)]
        have r18 : ∀ j, sI (wI (wI σm2 20 K (nI v2)) 18 2 (nI (K + 1))) 18 j = if j = 2 then nI (K + 1) else sI σm 18 j := fun j => by rw [sI_r, sI_wIn _ _ _ _ (by decide), b6.2.1 18 (by decide), sI_wIn _ _ _ _ (by decide), a6.2.1 18 (by decide)]
        have r19 : ∀ j, sI (wI (wI σm2 20 K (nI v2)) 18 2 (nI (K + 1))) 19 j = if j = K then nI v else sI σm 19 j := fun j => by rw [sI_wIn _ _ _ _ (by decide), sI_wIn _ _ _ _ (by decide), b6.2.1 19 (by decide), sI_r, a6.2.1 19 (by decide)]
        have r20 : ∀ j, sI (wI (wI σm2 20 K (nI v2)) 18 2 (nI (K + 1))) 20 j = if j = K then nI v2 else sI σm 20 j := fun j => by rw [sI_wIn _ _ _ _ (by decide), sI_r, b6.2.1 20 (by decide), sI_wIn _ _ _ _ (by decide), a6.2.1 20 (by decide)]
        have uL : ∀ a j, a ≠ 0 → a ≠ 1 → up2 (up2 L 0 K v) 1 K v2 a j = L a j := fun a j h1 h2 => by rw [up2_n _ _ _ _ h2, up2_n _ _ _ _ h1]
        have u0 : ∀ j, up2 (up2 L 0 K v) 1 K v2 0 j = if j = K then v else L 0 j := fun j => by rw [up2_n _ _ _ _ (by decide), up2_r]
        have u1 : ∀ j, up2 (up2 L 0 K v) 1 K v2 1 j = if j = K then v2 else L 1 j := fun j => by rw [up2_r, up2_n _ _ _ _ (by decide)]
        refine ⟨⟨by rw [r4]; exact d1, ⟨⟨by rw [r4]; rfl, by rw [r4]; exact l2, by rw [r4]; exact l3, by rw [r4, uL _ _ (by decide) (by decide)]; exact l4⟩, fun k hk => ?_, fun q hq => ?_, fun w hw => ?_⟩, d3.fr (fun b q1 q2 => rx b (by omega) (by omega))⟩, ⟨by rw [r18, uL _ _ (by decide) (by decide)]; exact d4, by rw [r18]; exact d5, by rw [r18]; rfl, by rw [r18]; exact d7, by rw [r18]; exact d8⟩, fun k hk => ?_, fun q hq => ?_, fun w hw => ?_⟩
        · show sI _ 5 k = _ ∧ sI _ 6 k = _
          rw [r5, r6, u0, u1]
          by_cases e : k = K
          · rw [if_pos e, if_pos e, if_pos e, if_pos e]; exact ⟨rfl, rfl⟩
          · rw [if_neg e, if_neg e, if_neg e, if_neg e]; exact l5 k (by omega)
        · rw [rx _ (by omega) (by omega), rx _ (by omega) (by omega), rx _ (by omega) (by omega), uL _ _ (by decide) (by decide), uL _ _ (by decide) (by decide), uL _ _ (by decide) (by decide)]; exact l6 q hq
        · rw [rx _ (by omega) (by omega), rx _ (by omega) (by omega), uL _ _ (by decide) (by decide), uL _ _ (by decide) (by decide)]; exact l7 w hw
        · rw [r19, r20, u0, u1]
          by_cases e : k = K
          · rw [if_pos e, if_pos e, if_pos e, if_pos e]; exact ⟨rfl, rfl⟩
          · rw [if_neg e, if_neg e, if_neg e, if_neg e]; exact d9 k (by omega)
        · rw [rm _ (by omega) (by omega), rm _ (by omega) (by omega), rm _ (by omega) (by omega), rm _ (by omega) (by omega), uL _ _ (by decide) (by decide), uL _ _ (by decide) (by decide), uL _ _ (by decide) (by decide)]; exact d10 q hq
        · rw [rm _ (by omega) (by omega), rm _ (by omega) (by omega), rm _ (by omega) (by omega), uL _ _ (by decide) (by decide), uL _ _ (by decide) (by decide)]; exact d11 w hw
      · obtain ⟨w1, ⟨⟨w2, w3, w4, w5⟩, w6, w7, w8⟩, w9, w10⟩ := hW
        refine ⟨w1, ⟨⟨by omega, w3, w4, w5⟩, fun k hk => ?_, w7, fun w hw => ⟨?_, (w8 w hw).2⟩⟩, w9, w10⟩
        · rw [up2_n _ _ _ _ (by decide), up2_r, up2_r, up2_n _ _ _ _ (by decide)]
          by_cases e : k = K
          · rw [if_pos e, if_pos e]; omega
          · rw [if_neg e, if_neg e]; exact w6 k (by omega)
        · have := (w8 w hw).1
          rw [up2_n _ _ _ _ (by decide), up2_n _ _ _ _ (by decide)]; omega
    · have r182 : sI (wI σm2 20 K r2) 18 2 = nI K := by rw [sI_wIn _ _ _ _ (by decide), b6.2.1 18 (by decide), sI_wIn _ _ _ _ (by decide), a6.2.1 18 (by decide)]; exact e182
      refine ⟨σx2, _, by rw [b3, bnd, b7, q_zero (by omega), if_neg b1], by rw [b4, bnd, chk_t bk, r182, nI_1], a5.fx.trans b5.fx, a6.fm.trans ((FrM.w _ _ _ (by decide)).trans (b6.fm.trans ((FrM.w _ _ _ (by decide)).trans (FrM.w _ _ _ (by decide))))), Or.inr ⟨f, b1, b2, b7, (b8.m (sI_wIn _ _ _ _ (by decide)) (sI_wIn _ _ _ _ (by decide))).m (sI_wIn _ _ _ _ (by decide)) (sI_wIn _ _ _ _ (by decide))⟩⟩
  · rw [a3, a4, bnd, bnd, chk_t bk]
    obtain ⟨σm2, b1, b2, b3⟩ := m_amountF hl hT a1 a2 (a8.m (σm' := wI σm1 19 K r2) (sI_wIn _ _ _ _ (by decide)) (sI_wIn _ _ _ _ (by decide))) 0 9
    have r182 : sI (wI σm2 20 K 0) 18 2 = nI K := by rw [sI_wIn _ _ _ _ (by decide), b2.2.1 18 (by decide), sI_wIn _ _ _ _ (by decide), a6.2.1 18 (by decide)]; exact e182
    refine ⟨σx1, _, by rw [x_numF a1 a2 a7, bnd, a7, q_zero (by omega), if_neg a1], by rw [b1, bnd, chk_t bk, r182, nI_1], a5.fx, a6.fm.trans ((FrM.w _ _ _ (by decide)).trans (b2.fm.trans ((FrM.w _ _ _ (by decide)).trans (FrM.w _ _ _ (by decide))))), Or.inr ⟨f, a1, a2, a7, (b3.m (sI_wIn _ _ _ _ (by decide)) (sI_wIn _ _ _ _ (by decide))).m (sI_wIn _ _ _ _ (by decide)) (sI_wIn _ _ _ _ (by decide))⟩⟩
end PP
end
