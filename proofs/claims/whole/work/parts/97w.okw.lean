/-! ===== pure: the order of what waits in a test ===== -/
section OKW
variable {len : Nat} {T : Nat → Nat}
/-- from the top: numbers rise up to the next open bracket -/
def okS : Nat → List Nat → Prop
  | _, [] => True
  | k, o :: W => (o = 15 ∧ okS 12 W) ∨ (k ≤ o ∧ o ≤ 14 ∧ okS o W)
theorem okS.mono {k k' : Nat} (h : k ≤ k') : ∀ {W : List Nat}, okS k' W → okS k W
  | [], _ => trivial
  | _ :: _, Or.inl g => Or.inl g
  | _ :: _, Or.inr g => Or.inr ⟨by omega, g.2⟩
theorem okS.mem : ∀ {W : List Nat} {k : Nat}, 12 ≤ k → okS k W → ∀ o, o ∈ W → 12 ≤ o ∧ o ≤ 15
  | [], _, _, _, o, ho => by cases ho
  | a :: W, k, hk, h, o, ho => by
    rcases h with ⟨h1, h2⟩ | ⟨h1, h2, h3⟩
    · rcases List.mem_cons.mp ho with g | g
      · omega
      · exact okS.mem (by decide) h2 o g
    · rcases List.mem_cons.mp ho with g | g
      · omega
      · exact okS.mem (by omega) h3 o g
theorem okS.split {k : Nat} (hk : 12 ≤ k) : ∀ {W : List Nat}, okS k W → ∃ m u, W = List.replicate m k ++ u ∧ okS (k + 1) u
  | [], _ => ⟨0, [], rfl, trivial⟩
  | a :: W, h => by
    rcases h with ⟨h1, h2⟩ | ⟨h1, h2, h3⟩
    · exact ⟨0, a :: W, rfl, Or.inl ⟨h1, h2⟩⟩
    · by_cases c : a = k
      · subst c
        obtain ⟨m, u, e, g⟩ := okS.split hk h3
        exact ⟨m + 1, u, by rw [e]; rfl, g⟩
      · exact ⟨0, a :: W, rfl, Or.inr ⟨by omega, h2, h3⟩⟩
theorem okS.last {W : List Nat} (h : okS 15 W) : W = [] ∨ ∃ u, W = 15 :: u ∧ okS 12 u := by
  cases W with
  | nil => exact Or.inl rfl
  | cons a W =>
    rcases h with ⟨h1, h2⟩ | ⟨h1, h2, h3⟩
    · exact Or.inr ⟨W, by rw [h1], h2⟩
    · omega
/-- how deep; how many links; how many answers wait -/
def dW (W : List Nat) : Nat := W.count 12 + W.count 15
def nLk (W : List Nat) : Nat := W.count 13 + W.count 14
def nAw (W : List Nat) : Nat := W.count 12 + nLk W
theorem cnt4 : ∀ (W : List Nat), (∀ o, o ∈ W → 12 ≤ o ∧ o ≤ 15) → W.length = dW W + nLk W
  | [], _ => rfl
  | a :: W, h => by
    have ih := cnt4 W (fun o ho => h o (List.mem_cons_of_mem _ ho))
    have ha := h a (by simp)
    unfold dW nLk at ih ⊢
    rcases (by omega : a = 12 ∨ a = 13 ∨ a = 14 ∨ a = 15) with e | e | e | e <;> subst e <;> simp <;> omega
theorem nts_c (t : List Nat) : nts t = t.count 12 := by
  unfold nts List.count
  rw [List.countP_eq_length_filter]
theorem dW_app (t u : List Nat) : dW (t ++ u) = dW t + dW u := by unfold dW; simp only [List.count_append]; omega
theorem nLk_app (t u : List Nat) : nLk (t ++ u) = nLk t + nLk u := by unfold nLk; simp only [List.count_append]; omega
theorem nAw_app (t u : List Nat) : nAw (t ++ u) = nAw t + nAw u := by unfold nAw; rw [nLk_app]; simp only [List.count_append]; omega
/-- of what has no bracket -/
theorem noB {t : List Nat} (h : ∀ o, o ∈ t → 12 ≤ o ∧ o ≤ 14) : dW t = nts t ∧ nAw t = t.length := by
  have h15 : t.count 15 = 0 := List.count_eq_zero.mpr (fun hm => by have := h 15 hm; omega)
  have h4 := cnt4 t (fun o ho => ⟨(h o ho).1, by have := (h o ho).2; omega⟩)
  refine ⟨by unfold dW; rw [h15, nts_c]; rfl, ?_⟩
  unfold nAw
  unfold dW at h4
  omega
theorem nts_app (t u : List Nat) : nts (t ++ u) = nts t + nts u := by simp only [nts_c, List.count_append]
theorem nts_lo {t : List Nat} (h : ∀ o, o ∈ t → o < 12) : nts t = 0 := by
  rw [nts_c]; exact List.count_eq_zero.mpr (fun hm => by have := h 12 hm; omega)
theorem dW_rep (m k : Nat) (u : List Nat) (hk : k ≠ 15) : dW (List.replicate m k ++ u) = dW u + (if k = 12 then m else 0) := by
  rw [dW_app]
  unfold dW
  simp only [List.count_replicate]
  by_cases c : k = 12
  · subst c; simp; omega
  · simp [c, hk]
theorem ty_t : ∀ (t : List Nat) (j : Nat), (∀ o, o ∈ t → 12 ≤ o ∧ o ≤ 14) → tys 50 (op0 t) (List.replicate (nLk t + j + 1) true) = some (List.replicate (j + 1) true)
  | [], j, _ => by
    show some (List.replicate (0 + j + 1) true) = _
    rw [Nat.zero_add]
  | o :: t, j, h => by
    have ih := ty_t t j (fun x hx => h x (List.mem_cons_of_mem _ hx))
    have ho := h o (by simp)
    have e : op0 (o :: t) = (o, 0) :: op0 t := rfl
    rw [e]
    show (ty1 50 (o, 0) _).bind _ = _
    rcases (by omega : o = 12 ∨ o = 13 ∨ o = 14) with c | c | c
    · subst c
      have e1 : nLk (12 :: t) = nLk t := by unfold nLk; simp
      rw [e1]; exact ih
    · subst c
      have e1 : nLk (13 :: t) + j + 1 = (nLk t + j) + 1 + 1 := by unfold nLk; simp; omega
      rw [e1]; exact ih
    · subst c
      have e1 : nLk (14 :: t) + j + 1 = (nLk t + j) + 1 + 1 := by unfold nLk; simp; omega
      rw [e1]; exact ih
/-- the reference answers what waits on top -/
theorem m_an1 {k r v : Nat} (hk : 12 ≤ k ∧ k ≤ 14) (hr : r < 6) {W : List Nat} {es : List Ent} {σ : MS} {x : Int32} (hx : x = nI (k - 3)) (hW : okS k W) (hl : W.length ≤ 60) (he : es.length + W.length < 300) (h31 : sI σ 0 31 = 0) (hE : EM σ r es v) (hK : TK σ (dW W) W) :
    ∃ m u σ', W = List.replicate m k ++ u ∧ okS (k + 1) u ∧ f_X12_answers x σ = some σ' ∧ EM σ' r (es ++ op0 (List.replicate m k)) v ∧ TK σ' (dW u) u ∧ FQ r σ σ' ∧ sI σ' 0 30 = sI σ 0 30 ∧ sI σ' 0 31 = 0 := by
  subst hx
  obtain ⟨m, u, e, hu⟩ := okS.split hk.1 hW
  have hlen : W.length = m + u.length := by rw [e]; simp
  have hd : dW W = dW u + (if k = 12 then m else 0) := by rw [e]; exact dW_rep m k u (by omega)
  rw [hd, e] at hK
  have h4 := cnt4 u (okS.mem (by omega) hu)
  obtain ⟨σ', a1, a2, a3, a4, a5⟩ := m_ans (v := v) hk hr m (dW u) FU u es σ (fun o u' h => by
    subst h
    have hm := okS.mem (k := k + 1) (by omega) hu o (by simp)
    rcases hu with ⟨h1, _⟩ | ⟨h1, _⟩
    · omega
    · omega) (by omega) (by omega) (by unfold FU; omega) h31 hE hK (by omega)
  exact ⟨m, u, σ', e, hu, a1, a2, a3, a4, a5 30 (by decide) (by decide) (by decide), by rw [a5 31 (by decide) (by decide) (by decide)]; exact h31⟩
theorem TK.fr {σ σ' : MS} {d : Nat} {W : List Nat} (h : TK σ d W) (g : FR σ σ') : TK σ' d W := h.fs g.fs
theorem m_t2 (hl : len ≤ 400) (hT : ∀ i, i < len → T i < 256) {r v p0 q : Nat} (hr : r < 6) {W : List Nat} {es : List Ent} {σ : MS} (hW : okS 12 W) (hlW : W.length ≤ 60) (he : es.length + W.length < 300) (tm : TM len T σ) (e30 : sI σ 0 30 = nI p0) (hp0 : p0 ≤ len) (hq : skB T len p0 = q) (h31 : sI σ 0 31 = 0) (hE : EM σ r es v) (hK : TK σ (dW W) W) :
    ∃ t u σa σb σr, W = t ++ u ∧ (∀ o, o ∈ t → 12 ≤ o ∧ o ≤ 13) ∧ okS 14 u ∧ f_X12_answers (9 : Int32) σ = some σa ∧ f_X12_blanks σa = some σb ∧ TM len T σb ∧ sI σb 0 30 = nI q ∧ f_X12_answers (10 : Int32) σb = some σr ∧ EM σr r (es ++ op0 t) v ∧ TK σr (dW u) u ∧ FQ r σ σr ∧ sI σr 0 30 = nI q ∧ sI σr 0 31 = 0 := by
  obtain ⟨m, u1, σa, e1, o1, a1, a2, a3, a4, a5, a6⟩ := m_an1 (k := 12) (x := (9 : Int32)) (by decide) hr rfl hW hlW he h31 hE hK
  have l1 : W.length = m + u1.length := by rw [e1]; simp
  obtain ⟨σb, b1, b2, b3, b4⟩ := m_blanks hl hT (p := p0) (by omega) (tm.fw a4) (by rw [a5]; exact e30)
  obtain ⟨i, u, σr, e2, o2, c1, c2, c3, c4, c5, c6⟩ := m_an1 (k := 13) (x := (10 : Int32)) (by decide) hr rfl o1 (by omega) (by simp [op0]; omega) (by rw [b3]; exact a6) (a2.fr b2) (a3.fr b2)
  rw [hq] at b4
  refine ⟨List.replicate m 12 ++ List.replicate i 13, u, σa, σb, σr, by rw [e1, e2]; simp, fun o ho => ?_, o2, a1, b1, (tm.fw a4).fr b2, b4, c1, ?_, c3, a4.trans ((b2.f2 r).trans c4), by rw [c5, b4], c6⟩
  · rcases List.mem_append.mp ho with h | h
    · have := (List.mem_replicate.mp h).2; omega
    · have := (List.mem_replicate.mp h).2; omega
  · have e3 : es ++ op0 (List.replicate m 12 ++ List.replicate i 13) = es ++ op0 (List.replicate m 12) ++ op0 (List.replicate i 13) := by simp [op0]
    rw [e3]; exact c2
/-- the class behind a word -/
theorem tok_wd {q k : Nat} {σ : MS} (hk : k < 23) (hlt : 97 ≤ chr k 0 ∧ chr k 0 ≤ 122) (hq : q ≤ len) (h : mtN T len q k = 1) (tk : TokX 20 T len q σ) : sI σ 20 1 = nI (q + slen.getD k 0) ∧ q + slen.getD k 0 ≤ len := by
  have hc := mt_chr hk h
  have hs : skL T len q - q = slen.getD k 0 := by
    unfold mtN at h
    split at h
    · rename_i hh; exact hh.1
    · cases h
  have hpos := (slen_lt k hk).2
  have hle := skL_le T hq
  rcases tk with ⟨g, _, _⟩ | ⟨g, g2, _⟩ | ⟨g, g2, _, g4⟩ | ⟨g, _, g2, _⟩
  · omega
  · omega
  · rw [g4, show skL T len q = q + slen.getD k 0 by omega]
    exact ⟨rfl, by omega⟩
  · omega
end OKW
