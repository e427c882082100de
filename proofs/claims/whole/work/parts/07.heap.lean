def FLk (own : String) (idx ci k : Nat) : Prop := Cond.fieldLink own idx (TF ci k).1 (TF ci k).2.1 (TF ci k).2.2.1 ∈ gd_tbl
abbrev inb (i : Int32) (n : Nat) : Prop := ¬ (i < 0 ∨ n ≤ i.toNatClampNeg)
abbrev ix (i : Int32) : Nat := i.toNatClampNeg
/-- a cell has changed -/
theorem Rep.put {Ω : OM} {σ σ' : MS} {H H1 : Heap} {a : Nat} {e' : va_E} (hR : Rep Ω σ H) (ha : a < sN σ) (hz : H1.size = H.size) (oq : ∀ q : Nat, q ≠ oR Ω a → H1[q]? = H[q]?) (he : va_at (oD Ω) classes (oR Ω a, e') H1) (hn : sN σ' = sN σ) (hs : sS σ' = sS σ) (hc : e' = cellE (oR Ω) (oDA Ω) σ' a) (ho : ∀ j, j ≠ a → cellE (oR Ω) (oDA Ω) σ' j = cellE (oR Ω) (oDA Ω) σ j) : Rep Ω σ' H1 := by
  obtain ⟨h1, h2, h3, h4⟩ := hR
  have hw := wsO_set Ω ha hn hc ho
  refine ⟨?_, ?_, ⟨fun h => ?_, fun h => ?_⟩, fun i q hq => ?_⟩
  · rw [← hw]
    exact h1.set h2 (wsO_at Ω ha) he oq
  · rw [← hw]
    exact h2.set (wsO_at Ω ha)
  · rw [hn, hz]; exact h3.1 h
  · rw [hz]; exact h3.2 h
  · rw [hn, hs]; exact h4 i q hq
theorem set_map {n k : Nat} {g g' : Nat → Value} {w : Value} (hg : g' k = w) (ho : ∀ j, j ≠ k → g' j = g j) : ((List.range n).map g).set k w = (List.range n).map g' := by
  apply List.ext_getElem?
  intro j
  by_cases hj : j < n
  · by_cases hjk : j = k
    · subst hjk
      rw [List.getElem?_set_self (by simpa using hj)]
      simp [hj, hg]
    · rw [List.getElem?_set_ne (fun q => hjk q.symm)]
      simp [hj, ho j hjk]
  · rw [List.getElem?_eq_none (by simp; omega), List.getElem?_eq_none (by simp; omega)]
def rb (raw : Bool) : Nat := if raw then 30 else 10
theorem cell_oo (Ω : OM) {σ : MS} {a ci n : Nat} (raw : Bool) (h : sS σ a = (rb raw + ci, n)) (hc : ci < 13) : cellE (oR Ω) (oDA Ω) σ a = .inr (ci, (List.range (nf ci)).map (fun k => cR (oR Ω) (fv σ raw ci k a))) := by
  cases raw with
  | false => exact cell_obj Ω h hc
  | true => exact cell_raw Ω h
theorem fv_int {σ : MS} {raw : Bool} {ci k a : Nat} (h : fk ci k = 0) : fv σ raw ci k a = .int (sI σ a k) := by simp [fv, h]
theorem fv_nul {σ : MS} {raw : Bool} {ci k a : Nat} (h : fk ci k = 1 ∨ (fk ci k = 2 ∧ raw = true)) : fv σ raw ci k a = va_rf (sR σ a k) := by
  rcases h with h | ⟨h, h2⟩
  · simp [fv, h]
  · simp [fv, h, h2]
theorem fv_fin {σ : MS} {ci k a : Nat} (h : fk ci k = 2) : fv σ false ci k a = .ref (FP ci k a) := by simp [fv, h]
section GH
variable {X : CX} {Ω : OM} {own : String} {cc : ByteArray} {nL mc ms : Nat} {ret : Option FieldType} {rm : Room} {β : Type} {em : β → Option Value × MS} {u v pc pc' : Nat} {L L' : List (Nat × Value)} {st : List Value} {σ : MS} {E E1 E2 : Option β}
theorem g_getV {a ci k n idx : Nat} {raw : Bool} {w : Value} (hX : CF X Ω own cc nL ret rm) (hd : Dc cc pc (.getfield idx) 3 pc') (hl : FLk own idx ci k) (hf : k < nf ci ∧ ci < 13) (ht : tf Ω σ a (rb raw + ci, n)) (hv : fv σ raw ci k a = w) (kk : GE X Ω nL mc ms em u v pc' L (w :: st) σ E) : GE X Ω nL mc ms em u v pc L (.ref a :: st) σ E := by
  obtain ⟨p, l, e, R, s, m, args, below, meth, c⟩ := X
  obtain ⟨hx, hb, hml, hr, hown, hts, hlk, hR0, hK, hO, hA⟩ := hX
  obtain ⟨hd, rfl⟩ := hd
  intro out hE H locs ls hR hS hL
  obtain ⟨h1, h2⟩ := hR.tf ht
  have he := wsO_at Ω h1
  rw [cell_oo Ω raw h2 hf.2] at he
  exact va_get hx hb hts (inG ci hf.2) hown hK.1 hR.1 a he (cl_at ci hf.2) k hf.1 (hts _ hl) (fun _ h => h) (v := cR (oR Ω) w) (by simp [hf.1, hv]) hd (kk out hE H locs ls hR hS hL)
/-- a number's field -/
theorem g_getI {a ci k n idx : Nat} (hX : CF X Ω own cc nL ret rm) (hd : Dc cc pc (.getfield idx) 3 pc') (hl : FLk own idx ci k) (hf : k < nf ci ∧ ci < 13) (h0 : fk ci k = 0) (ht : tf Ω σ a (10 + ci, n)) (kk : GE X Ω nL mc ms em u v pc' L (.int (sI σ a k) :: st) σ E) : GE X Ω nL mc ms em u v pc L (.ref a :: st) σ E := g_getV (raw := false) hX hd hl hf ht (fv_int h0) kk
/-- a reference that is given once -/
theorem g_getF {a ci k n idx q : Nat} (hX : CF X Ω own cc nL ret rm) (hd : Dc cc pc (.getfield idx) 3 pc') (hl : FLk own idx ci k) (hf : k < nf ci ∧ ci < 13) (h0 : fk ci k = 2) (ht : tf Ω σ a (10 + ci, n)) (hq : FP ci k a = q) (kk : GE X Ω nL mc ms em u v pc' L (.ref q :: st) σ E) : GE X Ω nL mc ms em u v pc L (.ref a :: st) σ E := g_getV (raw := false) hX hd hl hf ht (by rw [fv_fin h0, hq]) kk
/-- a reference that may be null, or one of an object that isn't finished -/
theorem g_getN {a ci k n idx : Nat} {raw : Bool} {F : Nat → Option β} (hX : CF X Ω own cc nL ret rm) (hd : Dc cc pc (.getfield idx) 3 pc') (hl : FLk own idx ci k) (hf : k < nf ci ∧ ci < 13) (h0 : fk ci k = 1 ∨ (fk ci k = 2 ∧ raw = true)) (ht : tf Ω σ a (rb raw + ci, n)) (k0 : sR σ a k = none → GE X Ω nL mc ms em u v pc' L (.null :: st) σ E) (k1 : ∀ b : Nat, sR σ a k = some b → GE X Ω nL mc ms em u v pc' L (.ref b :: st) σ (F b)) : GE X Ω nL mc ms em u v pc L (.ref a :: st) σ (onr (sR σ a k) E F) := by
  cases h : sR σ a k with
  | none => exact g_getV (raw := raw) hX hd hl hf ht (by rw [fv_nul h0, h]; rfl) (k0 h)
  | some b => exact g_getV (raw := raw) hX hd hl hf ht (by rw [fv_nul h0, h]; rfl) (k1 b h)
/-- storing into a field, by the machine's own row -/
theorem vz_put {p : Program} {l : Launch} {e : Env} {R : Room} {s : State} {m : MethodId} {args : Array Value} {below : List Frame} {meth : Method} {c : Code} {Q : State → Prop} {H H0 : Heap} {locs : List Loc} {ls : Array Slot} {rest : List Value} {a ci k idx : Nat} {fs : List Value} {w : Value} (hx : p.tables.exec = Jvm.exec) (hb : c.code = cc) (hown : s.vm.findClass own = some m.cls) (hts : ∀ w ∈ gd_tbl, w.before args s = true) (hK : va_K (oD Ω) classes (tyL Ω) s) (hci : ci < 13) (hat : va_at (oD Ω) classes (a, .inr (ci, fs)) H) (hl : FLk own idx ci k) (hk : k < nf ci) (hlen : k < fs.length) (hfin : (TF ci k).2.2.2 = false ∨ (meth.name = "<init>" ∧ (TF ci k).1 = own ∧ (TF ci k).2.2.2 = true)) (hn : narrow (tyF ci k) w = w) (hfit : fits (tyF ci k) w = true) (hA : oA Ω a) (hS : va_S (oA Ω) H0 H locs) (hdg : decode cc pc = .ok (.putfield idx, 3))
    (kk : ∀ (H1 : Heap) (locs1 : List Loc), H1.size = H.size → (∀ q : Nat, q ≠ a → H1[q]? = H[q]?) → va_at (oD Ω) classes (a, .inr (ci, fs.set k w)) H1 → va_S (oA Ω) H0 H1 locs1 → W p l e R s m args below meth c H1 locs1 u v Q (F0 m (pc + 3) ls rest)) : W p l e R s m args below meth c H locs u v Q (F0 m pc ls (w :: .ref a :: rest)) := by
  have hc := cl_at ci hci
  have hin := inG ci hci
  have hap := va_apart (own := own) hts hin (tyF ci) (tyG ci hci) (nmG ci hci) hK hc
  obtain ⟨r, h1, cell, q1, q2, q3, q4⟩ := hat
  have hr : r = (RF ci, TF ci, nf ci) := Option.some.inj (h1.symm.trans hc)
  subst hr
  obtain ⟨hSl, hfc, kC, hkC, hkind⟩ := hK.1 ci _ hc
  obtain ⟨cf, kf, fi, f, hi, hsl⟩ := hSl k hk
  have hst := (u_facts hfc hkC (u_lays hts hin hk) hi).1
  have fin : ∀ H' : Heap, H'[a]? = some (cell.setSlot f.slot w) → H'.size = H.size → (∀ q, q ≠ a → H'[q]? = H[q]?) → W p l e R s m args below meth c H' (locs ++ [⟨a, f.slot⟩]) u v Q (F0 m (pc + 3) ls rest) := by
    intro H' e1 e2 e3
    refine kk H' _ e2 e3 ⟨_, hc, ?_⟩ (hS.put e2 e3 hA)
    rw [hsl] at e1
    exact t_OB.to (V := updV (vp_V fs) k w) ⟨_, e1, q2, q3, t_set q4 hap hk w⟩ (fun j _ => vp_updV_set hlen w j)
  rcases hfin with hfin | ⟨hin2, hdecl, hfin⟩
  · have hlay := hts _ (hin _ (u_in_lay hk))
    unfold u_lay at hlay
    rw [if_neg (by rw [hfin]; decide)] at hlay
    have h6 := u_store hfc hkC hkind hlay hi (tyG ci hci k hk) hn hfit
    exact W.putK hx hb (f := f) ⟨hown, hts _ hl, ⟨_, _, _, hi⟩, hst⟩ (by rw [q2]; exact h6) q1 q3 (by rw [hsl]; exact k2_hasslot (q4 k hk)) rfl rfl hdg fin
  · have hlay := hts _ (hin _ (u_in_lay hk))
    unfold u_lay at hlay
    rw [if_pos hfin] at hlay
    have hcf : m.cls = cf := by
      obtain ⟨_, _, c', _, _, _, -, -, hf', -, -, -, hown2, -⟩ := Cond.laysFinal_spec hlay
      have e1 : c' = cf := by have := hi.symm.trans hf'; simp at this; exact this.1.symm
      rw [hdecl] at hown2
      rw [← e1]; exact Option.some.inj (hown.symm.trans hown2)
    have h6 := u_fits hfc hkC hkind (Or.inr hlay) hi (tyG ci hci k hk) hn hfit
    exact W.putFinK hx hb hown (hts _ hl) hi hst hcf hin2 (by rw [q2]; exact h6) q1 q3 (by rw [hsl]; exact k2_hasslot (q4 k hk)) rfl rfl hdg fin
theorem g_putI {a ci k n idx : Nat} {raw : Bool} {x : Int32} (hX : CF X Ω own cc nL ret rm) (hd : Dc cc pc (.putfield idx) 3 pc') (hl : FLk own idx ci k) (hf : k < nf ci ∧ ci < 13) (h0 : fk ci k = 0 ∧ (TF ci k).2.2.2 = false) (hn : narrow (tyF ci k) (.int x) = .int x ∧ fits (tyF ci k) (.int x) = true) (ht : tf Ω σ a (rb raw + ci, n)) (kk : GE X Ω nL mc ms em u v pc' L st (wI σ a k x) E) : GE X Ω nL mc ms em u v pc L (.int x :: .ref a :: st) σ E := by
  obtain ⟨p, l, e, R, s, m, args, below, meth, c⟩ := X
  obtain ⟨hx, hb, hml, hr, hown, hts, hlk, hR0, hK, hO, hA⟩ := hX
  obtain ⟨hd, rfl⟩ := hd
  intro out hE H locs ls hR hS hL
  obtain ⟨h1, h2⟩ := hR.tf ht
  have hw := wsO_at Ω h1
  have he := hR.1 a _ hw
  rw [cell_oo Ω raw h2 hf.2] at he
  refine vz_put hx hb hown hts hK.1 hf.2 he hl hf.1 (by simp [hf.1]) (Or.inl h0.2) hn.1 hn.2 (hR.2.1.2 a _ hw) hS hd (fun H1 locs1 hz oq hat hS1 => kk out hE H1 locs1 ls ?_ hS1 hL)
  refine hR.put (σ' := wI σ a k x) h1 hz oq hat rfl rfl ?_ (fun j hj => cell_of rfl (up2_rowN _ _ _ hj) rfl rfl)
  rw [cell_oo Ω raw (σ := wI σ a k x) h2 hf.2]
  congr 2
  refine set_map ?_ (fun j hj => ?_)
  · rw [fv_int h0.1]
    show Value.int (up2 (sI σ) a k x a k) = _
    rw [up2_s]
    rfl
  · show cR (oR Ω) (fv (wI σ a k x) raw ci j a) = cR (oR Ω) (fv σ raw ci j a)
    have e1 : sI (wI σ a k x) a j = sI σ a j := up2_k _ _ _ hj
    have e2 : sR (wI σ a k x) a j = sR σ a j := rfl
    unfold fv
    rw [e1, e2]
theorem g_putN {a ci k n idx : Nat} {raw : Bool} {r : Option Nat} (hX : CF X Ω own cc nL ret rm) (hd : Dc cc pc (.putfield idx) 3 pc') (hl : FLk own idx ci k) (hf : k < nf ci ∧ ci < 13) (h0 : fk ci k = 1 ∨ (fk ci k = 2 ∧ raw = true)) (hn : ∀ w : Option Nat, narrow (tyF ci k) (va_rf w) = va_rf w ∧ fits (tyF ci k) (va_rf w) = true) (ht : tf Ω σ a (rb raw + ci, n)) (hfin : (TF ci k).2.2.2 = false ∨ (X.2.2.2.2.2.2.2.2.1.name = "<init>" ∧ (TF ci k).1 = own ∧ (TF ci k).2.2.2 = true)) (kk : GE X Ω nL mc ms em u v pc' L st (wR σ a k r) E) : GE X Ω nL mc ms em u v pc L (va_rf r :: .ref a :: st) σ E := by
  obtain ⟨p, l, e, R, s, m, args, below, meth, c⟩ := X
  obtain ⟨hx, hb, hml, hr, hown, hts, hlk, hR0, hK, hO, hA⟩ := hX
  obtain ⟨hd, rfl⟩ := hd
  intro out hE H locs ls hR hS hL
  obtain ⟨h1, h2⟩ := hR.tf ht
  have hw := wsO_at Ω h1
  have he := hR.1 a _ hw
  rw [cell_oo Ω raw h2 hf.2] at he
  show W p l e R s m args below meth c H locs u v _ (F0 m pc ls (cR (oR Ω) (va_rf r) :: .ref (oR Ω a) :: st.map (cR (oR Ω))))
  rw [cR_rf]
  refine vz_put hx hb hown hts hK.1 hf.2 he hl hf.1 (by simp [hf.1]) hfin (hn _).1 (hn _).2 (hR.2.1.2 a _ hw) hS hd (fun H1 locs1 hz oq hat hS1 => kk out hE H1 locs1 ls ?_ hS1 hL)
  refine hR.put (σ' := wR σ a k r) h1 hz oq hat rfl rfl ?_ (fun j hj => cell_of rfl rfl rfl (up2_rowN _ _ _ hj))
  rw [cell_oo Ω raw (σ := wR σ a k r) h2 hf.2]
  congr 2
  refine set_map ?_ (fun j hj => ?_)
  · rw [fv_nul h0]
    show cR (oR Ω) (va_rf (up2 (sR σ) a k r a k)) = _
    rw [up2_s, cR_rf]
  · show cR (oR Ω) (fv (wR σ a k r) raw ci j a) = cR (oR Ω) (fv σ raw ci j a)
    have e1 : sI (wR σ a k r) a j = sI σ a j := rfl
    have e2 : sR (wR σ a k r) a j = sR σ a j := up2_k _ _ _ hj
    unfold fv
    rw [e1, e2]
end GH
