/-! ===== the law: both objects are made ===== -/
section LM0
variable {p : Program} {l : Launch} {e : Env} {s : State} {m : MethodId} {below : List Frame} {meth : Method} {c : Code} {b Ln : Nat} {xs : Nat → Int32} {dA : Nat → Nat} {D : va_G} {adK adV : Nat → Nat} {u v pc p1 p2 p3 : Nat}
theorem emp_rep (H : Heap) : Rep (oX1 dA D adK adV H.size) mE H := by
  have hw : wsO (oX1 dA D adK adV H.size) mE = [] := rfl
  refine ⟨?_, ?_, ⟨fun _ => ⟨Nat.zero_le _, rfl⟩, fun h => absurd trivial h⟩, fun i q h => ?_⟩
  · rw [hw]; intro k q hq; cases hq
  · rw [hw]; exact ⟨fun i j q r h => (by cases h), fun k q hq => (by cases hq)⟩
  · have : (([] : List (Nat × Nat))[i]?) = some q := h
    cases this
theorem l_mk {ci idx idx2 : Nat} {y : MethodName} {cy : ByteArray} {ny : Nat} {rmy : Room} {σ' : MS} {Q : State → Prop} {H : Heap} {locs : List Loc} {ls : Array Slot} (hF : LF p s m meth c b Ln xs dA D adK adV) (hci : ci < 13) (d0 : Dc code pc (.new idx) 3 p1) (d1 : Dc code p1 .dup 1 p2) (d2 : Dc code p2 (.invokespecial idx2) 3 p3)
    (hcl : Cond.classLink R_law idx (RF ci) ∈ gd_tbl) (hin : Cond.instantiable (RF ci) (nf ci) ∈ gd_tbl) (hini : Cond.initialized (RF ci) ∈ gd_tbl) (hl : MLk R_law idx2 y cy ny none 0) (hl2 : Cond.instanceMethod y ∈ gd_tbl) (hy : y.name = "<init>")
    (hC : Con (oX1 dA D adK adV H.size) y cy ny none rmy emWV [.ref 0] (al mE (30 + ci) 0) (some σ')) (hroom : rmIn rmy room_1 ny) (hc : u + 1 + rmy.cells ≤ 600000 ∧ v + nf ci + rmy.slots ≤ 7302250) (hS : va_S (fun q : Nat => s.heap.size ≤ q) s.heap H locs) (hL : ls.size = 4)
    (kk : ∀ (H1 : Heap) (locs1 : List Loc), Rep (oX1 dA D adK adV H.size) σ' H1 → (∀ q : Nat, q < H.size → H1[q]? = H[q]?) → va_S (fun q : Nat => s.heap.size ≤ q) s.heap H1 locs1 → W p l e room_1 s m #[Value.ref b] below meth c H1 locs1 (u + 1 + rmy.cells) (v + nf ci + rmy.slots) Q (F0 m p3 ls [.ref H.size])) :
    W p l e room_1 s m #[Value.ref b] below meth c H locs u v Q (F0 m pc ls []) := by
  obtain ⟨hx, hb, hml, hr, hown, hts, hlk, hX, hbl, hLn, hKK⟩ := hF
  obtain ⟨d0, rfl⟩ := d0
  obtain ⟨d1, rfl⟩ := d1
  obtain ⟨d2, rfl⟩ := d2
  have hA0 : ∀ q : Nat, oA (oX1 dA D adK adV H.size) q → s.heap.size ≤ q := fun q h => Nat.le_trans hS.1 h
  have hK : KK (oX1 dA D adK adV H.size) s := hKK _ rfl rfl rfl rfl hA0
  have hO := oX1_ok dA D adK adV H.size
  have hKn := hK.1.1 ci _ (cl_at ci hci)
  refine W.newcK hx hb hown (hts _ hcl) (hts _ hin) (hts _ hini) rfl d0 (show u + 1 ≤ 600000 by omega) (show v + nf ci ≤ 7302250 by omega) hKn.2.1 rfl fun H1 kC hkC e1 z1 o1 => ?_
  have hat : va_at (oD (oX1 dA D adK adV H.size)) classes (H.size, cellE (oR (oX1 dA D adK adV H.size)) (oDA (oX1 dA D adK adV H.size)) (al mE (30 + ci) 0) (sN mE)) H1 := by
    rw [cell_raw (oX1 dA D adK adV H.size) (σ := al mE (30 + ci) 0) (n := 0) (al_S _ _ _)]
    refine ⟨_, cl_at ci hci, (u_born (tyF ci) hts (inG ci hci) hKn hkC e1 (tyG ci hci)).to (fun j hj => ?_)⟩
    have hv : vp_V ((List.range (nf ci)).map (fun k => cR (oR (oX1 dA D adK adV H.size)) (fv (al mE (30 + ci) 0) true ci k (sN mE)))) j = cR (oR (oX1 dA D adK adV H.size)) (fv (al mE (30 + ci) 0) true ci j (sN mE)) := by simp [vp_V, hj]
    rw [dflt_ok ci hci j hj, hv]
    have eI : sI (al mE (30 + ci) 0) (sN mE) j = 0 := by
      exact congrFun (up1_s (sI mE) (sN mE) (fun _ => (0 : Int32))) j
    have eR : sR (al mE (30 + ci) 0) (sN mE) j = none := by
      exact congrFun (up1_s (sR mE) (sN mE) (fun _ => (none : Option Nat))) j
    rcases fk_le ci hci j hj with h | h | h
    · rw [fv_int h, eI, if_pos h]; rfl
    · rw [fv_nul (Or.inl h), eR, if_neg (by omega)]; rfl
    · rw [fv_nul (Or.inr ⟨h, rfl⟩), eR, if_neg (by omega)]; rfl
  obtain ⟨hR1, hq⟩ := (emp_rep (dA := dA) (D := D) (adK := adK) (adV := adV) H).push trivial (by decide) hO (Nat.le_refl _) z1 o1 hat
  have hS1 : va_S (fun q : Nat => s.heap.size ≤ q) s.heap H1 locs := ⟨Nat.le_trans hS.1 (by omega), fun q g1 g2 => (o1 q (Nat.lt_of_lt_of_le g1 hS.1)).trans (hS.2.1 q g1 g2), hS.2.2⟩
  have hq0 : oR (oX1 dA D adK adV H.size) 0 = H.size := hq
  refine lv_dup (va := .ref H.size) hx hb d1 rfl ?_
  have hrun := va_runI (p := p) (l := l) (e := e) (below := below) (meth := meth) (locs := locs) (cells := u + 1) (slots := v + nf ci) (g := F0 m (pc + 3 + 1) ls [.ref H.size, .ref H.size]) (As := []) (b := oR (oX1 dA D adK adV H.size) 0) (rest := [.ref H.size]) (R := room_1) ⟨hx, hb, hml, hown, hts⟩ (hC l σ' rfl) ⟨callB_of 0 hts (wY_good hl.2.2.1) rfl rfl rfl (hts _ hl.2.1) (hts _ hl.1) hl.2.2.2 hroom, hy, hts _ hl2⟩ ⟨pre_blind (y := y) (av := [.ref 0]), fun U hU hW => ⟨rfl, by rw [hU]; exact hR1, hK.step hW (fun a h1 h2 => by
      rw [hU]
      exact hS1.2.1 a h1 (fun q => absurd h1 (Nat.not_lt.mpr q))), fun h q hq => by
      show H.size ≤ q
      rw [hU] at hq
      omega⟩⟩ rfl rfl hL (by rw [hq0]; rfl) (lv_room (show (1 : Nat) ≤ 8 by decide)) d2 ⟨by show u + 1 + rmy.cells ≤ 600000; omega, by show v + nf ci + rmy.slots ≤ 7302250; omega⟩
  refine l_after (emy := emWV) (q := σ') hA0 hS1 hrun (fun H2 locs2 hR2 hz2 hk2 hS2 => ?_)
  exact kk H2 locs2 hR2 (fun q hq => (hk2 q (by omega) (fun z => absurd hq (Nat.not_lt.mpr z))).trans (o1 q hq)) hS2
end LM0
