/-! ===== pure: both read a value ===== -/
section JV
variable {len : Nat} {T : Nat → Nat}
theorem x_shl (n : Nat) : ((nI n <<< ((5 : Int32) &&& 31)) ||| (0 : Int32)) = nI (0 + 32 * n) := by
  apply Int32.toBitVec_inj.mp
  apply BitVec.eq_of_toNat_eq
  have e : ((nI n <<< ((5 : Int32) &&& 31)) ||| (0 : Int32)).toBitVec = ((BitVec.ofNat 32 n) <<< 5) ||| 0#32 := rfl
  have e2 : (nI (0 + 32 * n)).toBitVec = BitVec.ofNat 32 (0 + 32 * n) := rfl
  rw [e, e2, BitVec.toNat_or, BitVec.toNat_shiftLeft, BitVec.toNat_ofNat, BitVec.toNat_ofNat, BitVec.toNat_ofNat, Nat.shiftLeft_eq]
  simp
  omega
theorem x_shl1 : ∀ k, k < 12 → ((nI k <<< ((5 : Int32) &&& 31)) ||| (1 : Int32)) = nI (1 + 32 * k) := by decide +kernel
def wds : List Nat := [5, 6, 4, 10, 11, 12, 13, 14, 15, 16, 17, 18]
theorem wds_ok : ∀ i, i < 12 → f_X12_wordOf (nI i) = some (wds.getD i 0) ∧ wds.getD i 0 < 23 := by decide +kernel
theorem wsr_at (M : Nat → Nat) : ∀ (l : List Nat) (i j : Nat), wsr M l i = j + 1 → i ≤ j ∧ j - i < l.length ∧ M (l.getD (j - i) 0) = 1
  | [], i, j, h => by cases h
  | k :: l, i, j, h => by
    have h' : (if M k = 1 then i + 1 else wsr M l (i + 1)) = j + 1 := h
    by_cases c : M k = 1
    · rw [if_pos c] at h'
      have : j = i := by omega
      subst this
      refine ⟨Nat.le_refl _, by simp, ?_⟩
      rw [Nat.sub_self]; exact c
    · rw [if_neg c] at h'
      obtain ⟨a, b, d⟩ := wsr_at M l (i + 1) j h'
      refine ⟨by omega, by simp; omega, ?_⟩
      rw [show j - i = (j - (i + 1)) + 1 by omega]; simpa using d
theorem m_words (hl : len ≤ 400) (hT : ∀ i, i < len → T i < 256) {σ : MS} {p : Nat} (tm : TM len T σ) (hp : p ≤ 1000) (e30 : sI σ 0 30 = nI p) (h38 : sI σ 0 38 = nI 12) {y1 : Int32} : ∀ (l : List Nat) (i n : Nat), wds.drop i = l → l.length < n → i ≤ 12 → b_X12_value_37 n y1 (nI i) σ = b_X12_value_62 y1 (nI (if wsr (mtN T len p) l i = 0 then 12 else wsr (mtN T len p) l i - 1)) σ
  | [], i, n + 1, hd, hn, hi => by
    have h12 : i = 12 := by
      have := congrArg List.length hd
      have h2 : (wds.drop i).length = 12 - i := by rw [List.length_drop]; rfl
      rw [h2] at this
      have : 12 - i = 0 := this
      omega
    subst h12
    unfold b_X12_value_37
    rw [h38, q_le (by decide) (by decide), if_pos (Nat.le_refl 12)]
    rfl
  | k :: l, i, n + 1, hd, hn, hi => by
    have h12 : i < 12 := by
      have := congrArg List.length hd
      have h2 : (wds.drop i).length = 12 - i := by rw [List.length_drop]; rfl
      rw [h2] at this
      have : 12 - i = l.length + 1 := this
      omega
    have hk : wds.getD i 0 = k := by
      have := congrArg (fun x => x.getD 0 0) hd
      simpa [List.getD_eq_getElem?_getD, List.getElem?_drop] using this
    have hd2 : wds.drop (i + 1) = l := by rw [← List.tail_drop, hd]; rfl
    unfold b_X12_value_37
    obtain ⟨w1, w2⟩ := wds_ok i h12
    rw [hk] at w1 w2
    rw [h38, q_le (by decide) (by omega), if_neg (by omega), w1, bnd, chk_t w2, m_stood hl hT w2 tm (by omega) e30, bnd]
    have hw : wsr (mtN T len p) (k :: l) i = if mtN T len p k = 1 then i + 1 else wsr (mtN T len p) l (i + 1) := rfl
    by_cases c : mtN T len p k = 1
    · rw [c, if_neg (show ¬ nI 1 = 0 by decide), hw, if_pos c, if_neg (by omega)]; rfl
    · have := mtN_01 T len p k
      rw [show mtN T len p k = 0 by omega, if_pos (show nI 0 = 0 from rfl), nl_add, hw, if_neg c]
      exact m_words hl hT tm hp e30 h38 l (i + 1) n hd2 (by simp at hn; omega) (by omega)
  | _, _, 0, _, hn, _ => absurd hn (Nat.not_lt_zero _)
def CV (σ : MS) (part dep v : Nat) (ws : List Nat) (cs : List Ent) : Prop := sI σ 17 4 = nI part ∧ sI σ 17 5 = nI dep ∧ sI σ 17 6 = nI v ∧ Stk σ ws ∧ Cod σ cs
def okVl (e : Ent) : Prop := (e.1 = 0 ∧ e.2 < 100000) ∨ (e.1 = 1 ∧ e.2 < 12)
def FS (σ σ' : MS) : Prop := sI σ' 35 = sI σ 35 ∧ sI σ' 0 35 = sI σ 0 35 ∧ sI σ' 0 37 = sI σ 0 37
theorem FS.refl (σ : MS) : FS σ σ := ⟨rfl, rfl, rfl⟩
theorem FS.trans {σ σ' σ'' : MS} (h : FS σ σ') (g : FS σ' σ'') : FS σ σ'' := ⟨g.1.trans h.1, g.2.1.trans h.2.1, g.2.2.trans h.2.2⟩
theorem FR.fs {σ σ' : MS} (h : FR σ σ') : FS σ σ' := ⟨h.2.1 35 (by decide), h.2.2 35 (by decide) (by decide), h.2.2 37 (by decide) (by decide)⟩
theorem TK.fs {σ σ' : MS} {d : Nat} {W : List Nat} (h : TK σ d W) (g : FS σ σ') : TK σ' d W := ⟨by rw [g.2.1]; exact h.1, by rw [g.2.2]; exact h.2.1, fun i hi => by rw [g.1]; exact h.2.2 i hi⟩
theorem EM.fr {σ σ' : MS} {r v : Nat} {es : List Ent} (h : EM σ r es v) (g : FR σ σ') : EM σ' r es v := by
  obtain ⟨h1, h2, h3, h4, h5⟩ := h
  exact ⟨by rw [g.2.2 32 (by decide) (by decide)]; exact h1, by rw [g.2.2 34 (by decide) (by decide)]; exact h2, fun j hj => by rw [g.2.1 29 (by decide), g.2.1 30 (by decide)]; exact h3 j hj, by rw [g.2.2 36 (by decide) (by decide)]; exact h4, by rw [g.2.2 38 (by decide) (by decide)]; exact h5⟩
theorem EM.cnt {σ : MS} {r v : Nat} {es : List Ent} (h : EM σ r es v) (v' : Nat) : EM (wI σ 0 36 (nI v')) r es v' := by
  obtain ⟨h1, h2, h3, h4, h5⟩ := h
  exact ⟨by rw [sI_r, if_neg (by decide)]; exact h1, by rw [sI_r, if_neg (by decide)]; exact h2, fun j hj => by rw [sI_wIn _ _ _ _ (by decide), sI_wIn _ _ _ _ (by decide)]; exact h3 j hj, by rw [sI_r, if_pos rfl], by rw [sI_r, if_neg (by decide)]; exact h5⟩
theorem TX.fc {σ σ' : MS} (h : TX len T σ) (g : FC σ σ') : TX len T σ' := by
  obtain ⟨h1, h2⟩ := h
  exact ⟨by rw [g.2 1 (by decide) (by decide) (by decide) (by decide)]; exact h1, by rw [g.2 2 (by decide) (by decide) (by decide) (by decide)]; exact h2⟩
theorem TM.fw {r : Nat} {σ σ' : MS} (h : TM len T σ) (g : FQ r σ σ') : TM len T σ' := by
  obtain ⟨h1, h2⟩ := h
  exact ⟨by rw [g.2.2.1 29 (by omega)]; exact h1, by rw [g.2.1 28 (by decide) (by decide) (by decide) (by decide)]; exact h2⟩
theorem x_count {σ : MS} {v q : Nat} (h : sI σ 17 6 = nI v) (hv : v ≤ 60) (h6 : sI σ 20 6 = 0) (h3 : sI σ 20 3 = nI q) : f_X7_countValue σ = if v < 60 then some (wI σ 17 6 (nI (v + 1))) else some (wI (wI σ 20 6 (nI (1 + 8 * q + 3))) 17 6 (nI (v + 1))) := by
  unfold f_X7_countValue b_X7_countValue_0 b_X7_countValue_17
  rw [h]
  by_cases c : v < 60
  · rw [if_pos (show nI v < (60 : Int32) from (nl_lt (by decide) (by omega)).mpr c), if_pos c, nl_add]
  · rw [if_neg (show ¬ nI v < (60 : Int32) from fun q => c ((nl_lt (by decide) (by omega)).mp q)), if_neg c, x_fail (x := (3 : Int32)) (c := 3) rfl h6 h3, bnd, sI_wIn _ _ _ _ (by decide), h, nl_add]
theorem m_count {σ : MS} {v q : Nat} {x : Int32} (hx : x = nI q) (h : sI σ 0 36 = nI v) (hv : v ≤ 60) (h31 : sI σ 0 31 = 0) : f_X12_isCounted x σ = if v < 60 then some (wI σ 0 36 (nI (v + 1))) else some (wI (wI σ 0 31 (nI (1 + 8 * q + 3))) 0 36 (nI (v + 1))) := by
  unfold f_X12_isCounted b_X12_isCounted_0 b_X12_isCounted_15
  rw [h]
  by_cases c : v < 60
  · rw [if_pos c, if_neg (by rw [nl_eq (by decide) (by omega)]; omega), nl_add]
  · rw [if_neg c, if_pos (by rw [nl_eq (by decide) (by omega)]; omega), m_fails (x := (3 : Int32)) (c := 3) rfl hx h31, bnd, sI_r, if_neg (by decide), h, nl_add]
theorem x_emitA {σ : MS} {cs : List Ent} (x : Int32) (h : Cod σ cs) (hl : cs.length < 401) : ∃ σ', f_X7_emit x σ = some σ' ∧ FC σ σ' ∧ sI σ' 20 = sI σ 20 := by
  unfold f_X7_emit b_X7_emit_0
  rw [h.1, if_neg (by rw [show (401 : Int32) = nI 401 from rfl, nI_leI (by decide) (by omega)]; omega), chk_t (in_n hl (by decide)), ix_n (by omega)]
  exact ⟨_, rfl, (FC.w σ _ _ (by decide)).trans (FC.w _ _ _ (by decide)), by rw [sI_wIn _ _ _ _ (by decide), sI_wIn _ _ _ _ (by decide)]⟩
theorem x_68 {σ : MS} {cs : List Ent} (y : Int32) (h : Cod σ cs) (hl : cs.length < 401) : ∃ σ', b_X7_readValue_68 y σ = some σ' ∧ FC σ σ' ∧ sI σ' 20 = sI σ 20 := by
  have k : ∀ x, ∃ σ', b_X7_readValue_93 x σ = some σ' ∧ FC σ σ' ∧ sI σ' 20 = sI σ 20 := fun x => by
    obtain ⟨σ', a1, a2, a3⟩ := x_emitA x h hl
    unfold b_X7_readValue_93
    rw [a1, bnd]
    exact ⟨_, rfl, a2.trans (FC.w _ _ _ (by decide)), by rw [sI_wIn _ _ _ _ (by decide)]; exact a3⟩
  unfold b_X7_readValue_68
  split
  · exact k _
  · exact k _
theorem x_93 {σ : MS} {part dep v : Nat} {ws : List Nat} {cs : List Ent} {x : Int32} {e : Ent} (hx : x = encX e) (h : CV σ part dep v ws cs) (hl : cs.length < 401) : ∃ σ', b_X7_readValue_93 x σ = some σ' ∧ FC σ σ' ∧ sI σ' 20 = sI σ 20 ∧ sI σ' 17 3 = 2 ∧ CV σ' part dep v ws (cs ++ [e]) := by
  obtain ⟨h1, h2, h3, h4, h5⟩ := h
  obtain ⟨σ', a1, a2, a3, a4, a5, a6⟩ := x_emit hx h5 hl
  unfold b_X7_readValue_93
  rw [a1, bnd]
  refine ⟨_, rfl, a3.trans (FC.w _ _ _ (by decide)), by rw [sI_wIn _ _ _ _ (by decide)]; exact a6, by rw [sI_r, if_pos rfl], ?_, ?_, ?_, ⟨?_, ?_⟩, ?_, ?_⟩
  · rw [sI_r, if_neg (by decide), a4 4 (by decide)]; exact h1
  · rw [sI_r, if_neg (by decide), a4 5 (by decide)]; exact h2
  · rw [sI_r, if_neg (by decide), a4 6 (by decide)]; exact h3
  · rw [sI_r, if_neg (by decide), a4 2 (by decide)]; exact h4.1
  · rw [sI_wIn _ _ _ _ (by decide), a5]; exact h4.2
  · rw [sI_r, if_neg (by decide)]; exact a2.1
  · rw [sI_wIn _ _ _ _ (by decide)]; exact a2.2
theorem CV.cnt {σ : MS} {part dep v : Nat} {ws : List Nat} {cs : List Ent} (h : CV σ part dep v ws cs) (v' : Nat) : CV (wI σ 17 6 (nI v')) part dep v' ws cs := by
  obtain ⟨h1, h2, h3, h4, h5⟩ := h
  exact ⟨by rw [sI_r, if_neg (by decide)]; exact h1, by rw [sI_r, if_neg (by decide)]; exact h2, by rw [sI_r, if_pos rfl], ⟨by rw [sI_r, if_neg (by decide)]; exact h4.1, by rw [sI_wIn _ _ _ _ (by decide)]; exact h4.2⟩, ⟨by rw [sI_r, if_neg (by decide)]; exact h5.1, by rw [sI_wIn _ _ _ _ (by decide)]; exact h5.2⟩⟩
theorem x_64 {σ : MS} {part dep v q : Nat} {ws : List Nat} {cs : List Ent} {y : Int32} {e : Ent} (hc : CV σ part dep v ws cs) (hcl : cs.length < 401) (hv : v ≤ 60) (h6 : sI σ 20 6 = 0) (h3 : sI σ 20 3 = nI q) (hx1 : y = (-1 : Int32) → ((sI σ 20 4 <<< ((5 : Int32) &&& 31)) ||| (0 : Int32)) = encX e) (hx2 : ¬ y = (-1 : Int32) → ((y <<< ((5 : Int32) &&& 31)) ||| (1 : Int32)) = encX e) :
    ∃ σ', b_X7_readValue_64 y σ = some σ' ∧ FC σ σ' ∧ ((v < 60 ∧ sI σ' 20 = sI σ 20 ∧ sI σ' 17 3 = 2 ∧ CV σ' part dep (v + 1) ws (cs ++ [e])) ∨ (¬ v < 60 ∧ sI σ' 20 6 = nI (1 + 8 * q + 3))) := by
  unfold b_X7_readValue_64
  rw [x_count hc.2.2.1 hv h6 h3]
  by_cases c : v < 60
  · rw [if_pos c, bnd]
    have e20 : sI (wI σ 17 6 (nI (v + 1))) 20 = sI σ 20 := sI_wIn _ _ _ _ (by decide)
    unfold b_X7_readValue_68
    rw [e20]
    by_cases c2 : y = (-1 : Int32)
    · rw [if_pos c2]
      obtain ⟨σ', a1, a2, a3, a4, a5⟩ := x_93 (hx1 c2) (hc.cnt (v + 1)) hcl
      exact ⟨σ', a1, (FC.w σ _ _ (by decide)).trans a2, Or.inl ⟨c, a3.trans e20, a4, a5⟩⟩
    · rw [if_neg c2]
      obtain ⟨σ', a1, a2, a3, a4, a5⟩ := x_93 (hx2 c2) (hc.cnt (v + 1)) hcl
      exact ⟨σ', a1, (FC.w σ _ _ (by decide)).trans a2, Or.inl ⟨c, a3.trans e20, a4, a5⟩⟩
  · rw [if_neg c, bnd]
    have hC : Cod (wI (wI σ 20 6 (nI (1 + 8 * q + 3))) 17 6 (nI (v + 1))) cs := ⟨by rw [sI_r, if_neg (by decide), sI_wIn _ _ _ _ (by decide)]; exact hc.2.2.2.2.1, by rw [sI_wIn _ _ _ _ (by decide), sI_wIn _ _ _ _ (by decide)]; exact hc.2.2.2.2.2⟩
    obtain ⟨σ', a1, a2, a3⟩ := x_68 y hC hcl
    exact ⟨σ', a1, ((FC.w σ _ _ (by decide)).trans (FC.w _ _ _ (by decide))).trans a2, Or.inr ⟨c, by rw [a3, sI_wIn _ _ _ _ (by decide), sI_r, if_pos rfl]⟩⟩
theorem hI_neg1 {c : Nat} (hc : c < 1000) : (hI c = (-1 : Int32)) ↔ c = 0 := hI_none (by omega)
theorem j_value (hl : len ≤ 400) (hT : ∀ i, i < len → T i < 256) {q p0 r v part dep : Nat} {ws : List Nat} {cs es : List Ent} {σ1 σm : MS} (tx : TX len T σ1) (tk : TokX 20 T len q σ1) (h3 : sI σ1 20 3 = nI q) (h6 : sI σ1 20 6 = 0) (hq : q ≤ len) (hc : CV σ1 part dep v ws cs) (hcl : cs.length < 401) (hv : v ≤ 60) (tm : TM len T σm) (e30 : sI σm 0 30 = nI p0) (hp0 : p0 ≤ len) (hpq : skB T len p0 = q) (e31 : sI σm 0 31 = 0) (hE : EM σm r es v) (hr : r < 6) (hes : es.length < 300) :
    ∃ σx' σm', f_X7_readValue σ1 = some σx' ∧ f_X12_value σm = some σm' ∧ FC σ1 σx' ∧ FQ r σm σm' ∧
      ((∃ p' e, q < p' ∧ LSy 20 T len p' σx' σm' ∧ v < 60 ∧ okVl e ∧ sI σx' 17 3 = 2 ∧ CV σx' part dep (v + 1) ws (cs ++ [e]) ∧ EM σm' r (es ++ [e]) (v + 1) ∧ FS σm σm') ∨ (∃ f, f ≠ 0 ∧ f ≤ 4000 ∧ sI σx' 20 6 = nI f ∧ FltM T len f σm')) := by
  obtain ⟨σ2, b1, b2, b3, b4⟩ := m_blanks hl hT (by omega) tm e30
  rw [hpq] at b4
  have tm2 := tm.fr b2
  have z31 : sI σ2 0 31 = 0 := by rw [b3]; exact e31
  have hE2 := hE.fr b2
  have hW := x_among_tok hl hT tx (k1 := 2) (by decide) hq tk h3 ok_w2 (by decide) (by decide)
  unfold f_X7_readValue b_X7_readValue_0 f_X12_value b_X12_value_0
  rw [hW, bnd, b1, bnd, m_dig tm2 hl hT (by omega) b4, bnd]
  change ∃ σx' σm', (if sI σ1 20 2 = (1 : Int32) then b_X7_readValue_37 (hI (wsr (mtN T len q) wds 0)) σ1 else if hI (wsr (mtN T len q) wds 0) = (-1 : Int32) then (f_X4_fail 20 (0 : Int32) σ1).bind (fun r20 => b_X7_readValue_68 (hI (wsr (mtN T len q) wds 0)) r20) else b_X7_readValue_37 (hI (wsr (mtN T len q) wds 0)) σ1) = some σx' ∧ _
  have hwl : wsr (mtN T len q) wds 0 ≤ 12 := wsr_le _ _ _
  have hnw : ¬ (q < len ∧ 97 ≤ T q ∧ T q ≤ 122) → wsr (mtN T len q) wds 0 = 0 := fun hn => wsr_no _ _ _ (fun k hk => by
    have : k < 23 := by revert k; decide
    rw [mtN_no this hn]; decide)
  by_cases cd : q < len ∧ 48 ≤ T q ∧ T q ≤ 57
  · -- a number
    rw [if_pos cd, if_neg (show ¬ nI 1 = 0 by decide)]
    rw [hnw (by omega)]
    have ht : sI σ1 20 2 = 1 ∧ sI σ1 20 1 = nI (skD T len q) ∧ sI σ1 20 4 = nmX T q (skD T len q) := by
      rcases tk with ⟨g, _⟩ | ⟨_, _, g⟩ | ⟨_, g, _⟩ | ⟨_, g, _⟩
      · omega
      · exact g
      · omega
      · exact absurd cd.2 g
    obtain ⟨t2, t1, t4⟩ := ht
    rw [if_pos t2]
    obtain ⟨σ3, w, d1, d2, d3, d4, d5⟩ := m_digits hl hT cd.1 cd.2 tm2 b4 z31
    obtain ⟨s1, s2⟩ := skD_le T hq
    have hgt : q < skD T len q := by
      by_cases cq : skD T len q = q
      · exfalso
        have := sk_end (isD T) (len - q) q (by show skD T len q < _; omega)
        have h' : isD T (skD T len q) = false := this
        rw [cq] at h'
        simp [isD] at h'
        omega
      · omega
    rw [d1, bnd]
    unfold b_X7_readValue_37
    rw [if_pos (show hI 0 = (-1 : Int32) from rfl), t4]
    have hE3 := hE2.fr d2
    have tm3 := tm2.fr d2
    unfold nmX
    by_cases c5 : skD T len q - q ≤ 5
    · obtain ⟨ew, k31⟩ := d4 c5
      subst ew
      have hdl : dv T q (skD T len q - q) < 100000 := by
        have h1 := dv_lt T q (skD T len q - q) (fun i hi => by
          have := sk_in (isD T) (len - q) q (q + i) (by omega) (by show _ < skD T len q; omega)
          simp [isD] at this
          exact this.2)
        have h2 : 10 ^ (skD T len q - q) ≤ 10 ^ 5 := Nat.pow_le_pow_right (by decide) c5
        omega
      rw [if_pos c5, if_neg (n_neg1 (by omega))]
      obtain ⟨σx', x1, x2, x3⟩ := x_64 (y := hI 0) (e := (0, dv T q (skD T len q - q))) hc hcl hv h6 h3 (fun _ => by rw [t4]; unfold nmX; rw [if_pos c5, x_shl]; rfl) (fun h => absurd rfl h)
      rw [x1]
      change ∃ σx'' σm', some σx' = some σx'' ∧ ((f_X12_isCounted (sI σ2 0 30) σ3).bind (fun r35 => (f_X12_entry (0 : Int32) (nI (dv T q (skD T len q - q))) r35).bind (fun r36 => some r36))) = some σm' ∧ _
      rw [m_count b4 hE3.2.2.2.1 hv k31]
      rcases x3 with ⟨c6, x4, x5, x6⟩ | ⟨c6, x4⟩
      · rw [if_pos c6, bnd]
        obtain ⟨σ5, g1, g2, g3, g4, g5⟩ := m_entry (e := (0, dv T q (skD T len q - q))) (x := (0 : Int32)) rfl rfl (by rw [sI_r, if_neg (by decide)]; exact k31) (hE3.cnt (v + 1)) hr hes
        rw [g1, bnd]
        refine ⟨σx', σ5, rfl, rfl, x2, (b2.f2 r).trans ((d2.f2 r).trans ((FQ.w0 r _ _ (by decide)).trans g3)), Or.inl ⟨skD T len q, _, hgt, ⟨tx.fc x2, (tm3.fw (FQ.w0 r _ _ (by decide))).fw g3, s2, by rw [x4]; exact t1, by rw [g4 30 (by decide), sI_r, if_neg (by decide)]; exact d3, by rw [x4]; exact h6, by rw [g4 31 (by decide), sI_r, if_neg (by decide)]; exact k31⟩, c6, Or.inl ⟨rfl, hdl⟩, x5, x6, g2, ?_⟩⟩
        refine b2.fs.trans (d2.fs.trans ⟨?_, ?_, ?_⟩)
        · rw [g5, sI_wIn _ _ _ _ (by decide)]
        · rw [g4 35 (by decide), sI_r, if_neg (by decide)]
        · rw [g4 37 (by decide), sI_r, if_neg (by decide)]
      · rw [if_neg c6, bnd]
        have f31 : sI (wI (wI σ3 0 31 (nI (1 + 8 * q + 3))) 0 36 (nI (v + 1))) 0 31 = nI (1 + 8 * q + 3) := by rw [sI_r, if_neg (by decide), sI_r, if_pos rfl]
        rw [m_entryF (f := 1 + 8 * q + 3) (by omega) (by omega) f31, bnd]
        refine ⟨σx', _, rfl, rfl, x2, (b2.f2 r).trans ((d2.f2 r).trans ((FQ.w0 r _ _ (by decide)).trans (FQ.w0 r _ _ (by decide)))), Or.inr ⟨1 + 8 * q + 3, by omega, by omega, x4, ⟨(tm3.fw (FQ.w0 r _ _ (by decide))).fw (FQ.w0 r _ _ (by decide)), ⟨skD T len q, by omega, by rw [sI_r, if_neg (by decide), sI_r, if_neg (by decide)]; exact d3⟩, f31⟩⟩⟩
    · have k31 := d5 (by omega)
      rw [if_neg c5, if_pos rfl, x_fail (x := (1 : Int32)) (c := 1) rfl h6 h3, bnd]
      have hC : Cod (wI σ1 20 6 (nI (1 + 8 * q + 1))) cs := ⟨by rw [sI_wIn _ _ _ _ (by decide)]; exact hc.2.2.2.2.1, by rw [sI_wIn _ _ _ _ (by decide)]; exact hc.2.2.2.2.2⟩
      obtain ⟨σx', x1, x2, x3⟩ := x_68 (hI 0) hC hcl
      rw [x1]
      change ∃ σx'' σm', some σx' = some σx'' ∧ ((f_X12_isCounted (sI σ2 0 30) σ3).bind (fun r35 => (f_X12_entry (0 : Int32) w r35).bind (fun r36 => some r36))) = some σm' ∧ _
      obtain ⟨σ4, y1, y2, y3⟩ := m_countF (r := r) (f := 1 + 8 * q + 1) (by omega) (by omega) k31 (sI σ2 0 30)
      have f31 : sI σ4 0 31 = nI (1 + 8 * q + 1) := by rw [y3 31 (by decide)]; exact k31
      rw [y1, bnd, m_entryF (f := 1 + 8 * q + 1) (by omega) (by omega) f31, bnd]
      exact ⟨σx', σ4, rfl, rfl, (FC.w σ1 _ _ (by decide)).trans x2, (b2.f2 r).trans ((d2.f2 r).trans y2), Or.inr ⟨1 + 8 * q + 1, by omega, by omega, by rw [x3, sI_r, if_pos rfl], ⟨tm3.fw y2, ⟨skD T len q, by omega, by rw [y3 30 (by decide)]; exact d3⟩, f31⟩⟩⟩
  · -- not a number
    rw [if_neg cd, if_pos (show nI 0 = 0 from rfl)]
    have ht2 : ¬ sI σ1 20 2 = (1 : Int32) := by
      rcases tk with ⟨_, g, _⟩ | ⟨g1, g2, _⟩ | ⟨_, _, g, _⟩ | ⟨_, _, _, g, _⟩
      · rw [g]; decide
      · exact absurd ⟨g1, g2⟩ cd
      · rw [g]; decide
      · rw [g]; decide
    have hmw : b_X12_value_37 FU (sI σ2 0 30) 0 σ2 = _ := m_words hl hT tm2 (by omega) b4 hE2.2.2.2.2 wds 0 FU rfl (by unfold FU; decide) (by decide)
    rw [if_neg ht2, hmw]
    by_cases c0 : wsr (mtN T len q) wds 0 = 0
    · rw [if_pos ((hI_neg1 (by omega)).mpr c0), if_pos c0, x_fail (x := (0 : Int32)) (c := 0) rfl h6 h3, bnd]
      have hC : Cod (wI σ1 20 6 (nI (1 + 8 * q + 0))) cs := ⟨by rw [sI_wIn _ _ _ _ (by decide)]; exact hc.2.2.2.2.1, by rw [sI_wIn _ _ _ _ (by decide)]; exact hc.2.2.2.2.2⟩
      obtain ⟨σx', x1, x2, x3⟩ := x_68 (hI (wsr (mtN T len q) wds 0)) hC hcl
      unfold b_X12_value_62
      rw [x1, hE2.2.2.2.2, if_pos rfl, m_fails (x := (0 : Int32)) (c := 0) rfl b4 z31, bnd]
      exact ⟨σx', _, rfl, rfl, (FC.w σ1 _ _ (by decide)).trans x2, (b2.f2 r).trans ((FR.w31 σ2 _).f2 r), Or.inr ⟨1 + 8 * q + 0, by omega, by omega, by rw [x3, sI_r, if_pos rfl], ⟨tm2.fr (FR.w31 σ2 _), ⟨q, by omega, by rw [sI_r, if_neg (by decide)]; exact b4⟩, by rw [sI_r, if_pos rfl]⟩⟩⟩
    · obtain ⟨k, hk⟩ : ∃ k, wsr (mtN T len q) wds 0 = k + 1 := ⟨wsr (mtN T len q) wds 0 - 1, by omega⟩
      obtain ⟨_, k2, k3⟩ := wsr_at (mtN T len q) wds 0 k hk
      have k12 : k < 12 := by omega
      rw [Nat.sub_zero] at k3
      have hlet : q < len ∧ 97 ≤ T q ∧ T q ≤ 122 := by
        by_cases h : q < len ∧ 97 ≤ T q ∧ T q ≤ 122
        · exact h
        · exact absurd (hnw h) c0
      have t1 : sI σ1 20 1 = nI (skL T len q) := by
        rcases tk with ⟨g, _, _⟩ | ⟨_, g2, _⟩ | ⟨_, _, _, g⟩ | ⟨_, _, g, _, _⟩
        · omega
        · omega
        · exact g
        · exact absurd hlet.2 g
      have hsl : skL T len q - q = slen.getD (wds.getD k 0) 0 := by
        unfold mtN at k3
        split at k3
        · rename_i hh; exact hh.1
        · cases k3
      obtain ⟨w1, w2⟩ := wds_ok k k12
      have hsp := (slen_lt _ w2).2
      obtain ⟨s1, s2⟩ := skL_le T hq
      rw [if_neg (fun h => c0 ((hI_neg1 (by omega)).mp h)), if_neg c0, hk]
      have ehk : hI (k + 1) = nI k := by
        show nI (k + 1) - 1 = nI k
        rw [nl_sub (by omega)]; rfl
      have hne : ¬ hI (k + 1) = (-1 : Int32) := fun h => by
        have := (hI_neg1 (c := k + 1) (by omega)).mp h
        omega
      unfold b_X7_readValue_37
      rw [if_neg hne]
      obtain ⟨σx', x1, x2, x3⟩ := x_64 (y := hI (k + 1)) (e := (1, k)) hc hcl hv h6 h3 (fun h => absurd h hne) (fun _ => by rw [ehk, x_shl1 k k12]; rfl)
      rw [x1, show k + 1 - 1 = k by omega]
      unfold b_X12_value_62
      rw [hE2.2.2.2.2, if_neg (by rw [nI_eq (by omega) (by decide)]; omega), b4, m_count rfl hE2.2.2.2.1 hv z31]
      rcases x3 with ⟨c6, x4, x5, x6⟩ | ⟨c6, x4⟩
      · rw [if_pos c6, bnd, w1, bnd, chk_t w2, len_ok _ w2, bnd, sI_r, if_neg (by decide), b4, nI_add]
        have hpos : q + slen.getD (wds.getD k 0) 0 = skL T len q := by omega
        rw [hpos]
        have hEc : EM (wI (wI σ2 0 36 (nI (v + 1))) 0 30 (nI (skL T len q))) r es (v + 1) := (hE2.cnt (v + 1)).fr (FR.w30 _ _)
        obtain ⟨σ5, g1, g2, g3, g4, g5⟩ := m_entry (e := (1, k)) (x := (1 : Int32)) (y := nI k) rfl rfl (by rw [sI_r, if_neg (by decide), sI_r, if_neg (by decide)]; exact z31) hEc hr hes
        rw [g1, bnd]
        refine ⟨σx', σ5, rfl, rfl, x2, (b2.f2 r).trans ((FQ.w0 r _ _ (by decide)).trans ((FQ.w0 r _ _ (by decide)).trans g3)), Or.inl ⟨skL T len q, _, by omega, ⟨tx.fc x2, ((tm2.fw (FQ.w0 r _ _ (by decide))).fw (FQ.w0 r _ _ (by decide))).fw g3, s2, by rw [x4]; exact t1, by rw [g4 30 (by decide), sI_r, if_pos rfl], by rw [x4]; exact h6, by rw [g4 31 (by decide), sI_r, if_neg (by decide), sI_r, if_neg (by decide)]; exact z31⟩, c6, Or.inr ⟨rfl, k12⟩, x5, x6, g2, ?_⟩⟩
        refine b2.fs.trans ⟨?_, ?_, ?_⟩
        · rw [g5, sI_wIn _ _ _ _ (by decide), sI_wIn _ _ _ _ (by decide)]
        · rw [g4 35 (by decide), sI_r, if_neg (by decide), sI_r, if_neg (by decide)]
        · rw [g4 37 (by decide), sI_r, if_neg (by decide), sI_r, if_neg (by decide)]
      · rw [if_neg c6, bnd, w1, bnd, chk_t w2, len_ok _ w2, bnd]
        have p30 : sI (wI (wI σ2 0 31 (nI (1 + 8 * q + 3))) 0 36 (nI (v + 1))) 0 30 = nI q := by rw [sI_r, if_neg (by decide), sI_r, if_neg (by decide)]; exact b4
        rw [p30, nI_add, show q + slen.getD (wds.getD k 0) 0 = skL T len q by omega]
        have f31 : sI (wI (wI (wI σ2 0 31 (nI (1 + 8 * q + 3))) 0 36 (nI (v + 1))) 0 30 (nI (skL T len q))) 0 31 = nI (1 + 8 * q + 3) := by rw [sI_r, if_neg (by decide), sI_r, if_neg (by decide), sI_r, if_pos rfl]
        rw [m_entryF (f := 1 + 8 * q + 3) (by omega) (by omega) f31, bnd]
        have fm : FQ r σ2 (wI (wI (wI σ2 0 31 (nI (1 + 8 * q + 3))) 0 36 (nI (v + 1))) 0 30 (nI (skL T len q))) := (FQ.w0 r _ _ (by decide)).trans ((FQ.w0 r _ _ (by decide)).trans (FQ.w0 r _ _ (by decide)))
        exact ⟨σx', _, rfl, rfl, x2, (b2.f2 r).trans fm, Or.inr ⟨1 + 8 * q + 3, by omega, by omega, x4, ⟨tm2.fw fm, ⟨skL T len q, by omega, by rw [sI_r, if_pos rfl]⟩, f31⟩⟩⟩
end JV
