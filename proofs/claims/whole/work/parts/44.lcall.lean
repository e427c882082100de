/-! ===== the law's calls ===== -/
theorem con_PW {Ω : OM} {y : MethodName} {cc : ByteArray} {nL : Nat} {ret : Option FieldType} {rm : Room} {av : List Value} {σ : MS} {E : Option Int32} (h : Con Ω y cc nL ret rm (emPI σ) av σ E) : Con Ω y cc nL ret rm emWI av σ (E.map (fun r => (r, σ))) := by
  intro l out hE
  cases hE2 : E with
  | none => rw [hE2] at hE; cases hE
  | some r =>
    rw [hE2] at hE
    have : out = (r, σ) := (Option.some.inj hE).symm
    subst this
    exact h l r hE2
section LC
variable {p : Program} {l : Launch} {e : Env} {s : State} {m : MethodId} {below : List Frame} {meth : Method} {c : Code} {b Ln : Nat} {xs : Nat → Int32} {dA : Nat → Nat} {D : va_G} {adK adV : Nat → Nat} {u v pc pc' : Nat} {i : Int32} {st : List Value} {σx σm : MS}
theorem l_callX {y : MethodName} {cy : ByteArray} {ny n idx : Nat} {ry : Option FieldType} {rmy : Room} {As : List Value} {Ey : Option (Int32 × MS)} {r : Int32 × MS} (hF : LF p s m meth c b Ln xs dA D adK adV) (hd : Dc code pc (.invokevirtual idx) 3 pc') (hl : MLv R_law idx y cy ny ry n 11) (hC : Con (oX dA D adK adV s.heap.size) y cy ny ry rmy emWI (.ref 0 :: As) σx Ey) (hE : Ey = some r) (hAs : As.map (cR (oR (oX dA D adK adV s.heap.size))) = As) (hn : As.length = n) (hroom : rmIn rmy room_1 ny) (hc : u + rmy.cells ≤ 600000 ∧ v + rmy.slots ≤ 7302250) (hcat : (st.map fun w => w.category).sum ≤ 8)
    (k : LG p l e s m below meth c b dA D adK adV (u + rmy.cells) (v + rmy.slots) pc' i (.int r.1 :: st) r.2 σm) : LG p l e s m below meth c b dA D adK adV u v pc i (As.reverse ++ .ref s.heap.size :: st) σx σm := by
  obtain ⟨hx, hb, hml, hr, hown, hts, hlk, hX, hbl, hLn, hKK⟩ := hF
  obtain ⟨hd, rfl⟩ := hd
  intro H locs ls hR hRm hS hL
  have hA0 : ∀ q : Nat, oA (oX dA D adK adV s.heap.size) q → s.heap.size ≤ q := fun q h => h.1
  have hK : KK (oX dA D adK adV s.heap.size) s := hKK _ rfl rfl rfl rfl hA0
  have hO := oX_ok dA D adK adV s.heap.size
  have hz : H.size = s.heap.size + 48 + sN σx := (hR.2.2.1.1 trivial).2
  have hn0 : 56 ≤ sN σx := (hR.2.2.1.1 trivial).1
  obtain ⟨b1, b2⟩ := hR.2.2.2 0 (21, 0) rfl
  have hwb := wsO_at (oX dA D adK adV s.heap.size) b1
  rw [cell_obj (ci := 11) (oX dA D adK adV s.heap.size) b2 (by decide)] at hwb
  have hrun := va_runV (p := p) (l := l) (e := e) (below := below) (meth := meth) (locs := locs) (cells := u) (slots := v) (g := F0 m pc ls (As.reverse ++ .ref s.heap.size :: st)) (As := As.map (cR (oR (oX dA D adK adV s.heap.size)))) (b := oR (oX dA D adK adV s.heap.size) 0) (rest := st) (R := room_1) ⟨hx, hb, hml, hown, hts⟩ (hC l r hE) ⟨callB_of n hts (wY_good hl.1.2.2.1) rfl rfl rfl (hts _ hl.1.2.1) (hts _ hl.1.1) hl.1.2.2.2 hroom, hts _ hl.2.1, hts _ hl.2.2.1⟩ ⟨pre_blind (y := y) (av := .ref 0 :: As), va_recv hK.1 hR.1 (cl_at 11 (by decide)) hwb, fun U hU hW => ⟨rfl, by rw [hU]; exact hR, hK.step hW (fun a h1 h2 => by
      rw [hU]
      exact hS.2.1 a h1 (fun q => absurd h1 (Nat.not_lt.mpr q))), fun h q hq => ?_⟩⟩ rfl (by rw [List.length_map]; exact hn) hL.1 (by rw [hAs]; rfl) (lv_room hcat) hd hc
  · refine l_after (emy := emWI) (q := r) hA0 hS hrun (fun H1 locs1 hR1 hz1 hk1 hS1 => ?_)
    exact k H1 locs1 ls hR1 (rep_m hRm hk1) hS1 hL
  · rw [hU, hz] at hq
    exact ⟨by omega, by omega⟩
theorem l_callM {y : MethodName} {cy : ByteArray} {ny n idx : Nat} {ry : Option FieldType} {rmy : Room} {As : List Value} {Ey : Nat → Option (Int32 × MS)} {r : Int32 × MS} (hF : LF p s m meth c b Ln xs dA D adK adV) (hd : Dc code pc (.invokevirtual idx) 3 pc') (hl : MLv R_law idx y cy ny ry n 12) (hC : ∀ h : Nat, Con (oM dA D adK adV s.heap.size h) y cy ny ry rmy emWI (.ref 0 :: As) σm (Ey h)) (hE : ∀ h, Ey h = some r) (hAs : ∀ h, As.map (cR (oR (oM dA D adK adV s.heap.size h))) = As) (hn : As.length = n) (hroom : rmIn rmy room_1 ny) (hc : u + rmy.cells ≤ 600000 ∧ v + rmy.slots ≤ 7302250) (hcat : (st.map fun w => w.category).sum ≤ 8)
    (k : LG p l e s m below meth c b dA D adK adV (u + rmy.cells) (v + rmy.slots) pc' i (.int r.1 :: st) σx r.2) : LG p l e s m below meth c b dA D adK adV u v pc i (As.reverse ++ .ref (s.heap.size + 56) :: st) σx σm := by
  obtain ⟨hx, hb, hml, hr, hown, hts, hlk, hX, hbl, hLn, hKK⟩ := hF
  obtain ⟨hd, rfl⟩ := hd
  intro H locs ls hR hRm hS hL
  have hA0 : ∀ q : Nat, oA (oM dA D adK adV s.heap.size H.size) q → s.heap.size ≤ q := fun q h => Nat.le_trans (Nat.le_add_right _ 56) h.1
  have hK : KK (oM dA D adK adV s.heap.size H.size) s := hKK _ rfl rfl rfl rfl hA0
  have hO := oM_ok dA D adK adV s.heap.size H.size
  obtain ⟨b1, b2⟩ := hRm.2.2.2 0 (22, 0) rfl
  have hwb := wsO_at (oM dA D adK adV s.heap.size H.size) b1
  rw [cell_obj (ci := 12) (oM dA D adK adV s.heap.size H.size) b2 (by decide)] at hwb
  have hrun := va_runV (p := p) (l := l) (e := e) (below := below) (meth := meth) (locs := locs) (cells := u) (slots := v) (g := F0 m pc ls (As.reverse ++ .ref (s.heap.size + 56) :: st)) (As := As.map (cR (oR (oM dA D adK adV s.heap.size H.size)))) (b := oR (oM dA D adK adV s.heap.size H.size) 0) (rest := st) (R := room_1) ⟨hx, hb, hml, hown, hts⟩ (hC H.size l r (hE H.size)) ⟨callB_of n hts (wY_good hl.1.2.2.1) rfl rfl rfl (hts _ hl.1.2.1) (hts _ hl.1.1) hl.1.2.2.2 hroom, hts _ hl.2.1, hts _ hl.2.2.1⟩ ⟨pre_blind (y := y) (av := .ref 0 :: As), va_recv hK.1 hRm.1 (cl_at 12 (by decide)) hwb, fun U hU hW => ⟨rfl, by rw [hU]; exact hRm, hK.step hW (fun a h1 h2 => by
      rw [hU]
      exact hS.2.1 a h1 (fun q => absurd h1 (Nat.not_lt.mpr q))), fun h q hq => absurd h (fun x => x)⟩⟩ rfl (by rw [List.length_map]; exact hn) hL.1 (by rw [hAs]; rfl) (lv_room hcat) hd hc
  refine l_after (emy := emWI) (q := r) hA0 hS hrun (fun H1 locs1 hR1 hz1 hk1 hS1 => ?_)
  have e1 : H1.size = H.size := (hR1.2.2.1.2 (fun x => x))
  refine k H1 locs1 ls (rep_x hR e1 hk1) ?_ hS1 hL
  rw [e1]
  exact hR1
end LC
