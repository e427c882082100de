/-! ===== the law's own frame: two memories ===== -/
def rho (base n0 g : Nat) (adK adV : Nat → Nat) : Nat → Nat := fun i => if i < 1000000 then (if i < n0 then base + i else base + g + i) else if i < 1000200 then adK (i - 1000000) else adV (i - 1000200)
/-- the class's places: 56 cells, then those that come behind the reference's 48 -/
def oX (dA : Nat → Nat) (D : va_G) (adK adV : Nat → Nat) (base : Nat) : OM := (rho base 56 48 adK adV, dA, D.1, D.2, (fun q => base ≤ q ∧ ¬ (base + 56 ≤ q ∧ q < base + 104)), (fun n => base + 48 + n), True, 56, SHX, adK, adV)
/-- the reference's places -/
def oM (dA : Nat → Nat) (D : va_G) (adK adV : Nat → Nat) (base h : Nat) : OM := (rho (base + 56) 1000000 0 adK adV, dA, D.1, D.2, (fun q => base + 56 ≤ q ∧ q < base + 104), (fun _ => h), False, 48, SHM, adK, adV)
/-- while the class's object is made, and while the reference's is -/
def oX1 (dA : Nat → Nat) (D : va_G) (adK adV : Nat → Nat) (base : Nat) : OM := (rho base 1000000 0 adK adV, dA, D.1, D.2, (fun q => base ≤ q), (fun n => base + n), True, 0, [], adK, adV)
theorem rho_text {base n0 g : Nat} {adK adV : Nat → Nat} : (∀ i : Nat, i < 23 ∨ i = 100 ∨ i = 101 → rho base n0 g adK adV (1000000 + i) = adK i) ∧ (∀ i : Nat, i < 23 → rho base n0 g adK adV (1000200 + i) = adV i) := by
  refine ⟨fun i hi => ?_, fun i hi => ?_⟩
  · have h1 : ¬ 1000000 + i < 1000000 := by omega
    have h2 : 1000000 + i < 1000200 := by omega
    simp only [rho, h1, h2, if_true, if_false]
    rw [Nat.add_sub_cancel_left]
  · have h1 : ¬ 1000200 + i < 1000000 := by omega
    have h2 : ¬ 1000200 + i < 1000200 := by omega
    simp only [rho, h1, h2, if_false]
    rw [Nat.add_sub_cancel_left]
theorem oX_ok (dA : Nat → Nat) (D : va_G) (adK adV : Nat → Nat) (base : Nat) : OKO (oX dA D adK adV base) := by
  refine ⟨fun i j hi hj h => ?_, fun _ n hn hl => ?_, rho_text.1, rho_text.2, Nat.le_of_ble_eq_true rfl⟩
  · have h' : rho base 56 48 adK adV i = rho base 56 48 adK adV j := h
    simp only [rho, hi, hj, if_true] at h'
    split at h' <;> split at h' <;> omega
  · have hn' : 56 ≤ n := hn
    have h1 : ¬ n < 56 := by omega
    refine ⟨?_, ?_⟩
    · show rho base 56 48 adK adV n = base + 48 + n
      simp only [rho, hl, h1, if_true, if_false]
    · show base + 48 + (n + 1) = base + 48 + n + 1
      omega
theorem oM_ok (dA : Nat → Nat) (D : va_G) (adK adV : Nat → Nat) (base h : Nat) : OKO (oM dA D adK adV base h) := by
  refine ⟨fun i j hi hj h => ?_, fun hF => absurd hF (fun x => x), rho_text.1, rho_text.2, ?_⟩
  · have h' : rho (base + 56) 1000000 0 adK adV i = rho (base + 56) 1000000 0 adK adV j := h
    simp only [rho, hi, hj, if_true] at h'
    omega
  · exact Nat.le_of_ble_eq_true rfl
theorem oX1_ok (dA : Nat → Nat) (D : va_G) (adK adV : Nat → Nat) (base : Nat) : OKO (oX1 dA D adK adV base) := by
  refine ⟨fun i j hi hj h => ?_, fun _ n hn hl => ?_, rho_text.1, rho_text.2, Nat.le_of_ble_eq_true rfl⟩
  · have h' : rho base 1000000 0 adK adV i = rho base 1000000 0 adK adV j := h
    simp only [rho, hi, hj, if_true] at h'
    omega
  · refine ⟨?_, ?_⟩
    · show rho base 1000000 0 adK adV n = base + n
      simp only [rho, hl, if_true]
    · show base + (n + 1) = base + n + 1
      omega
/-- the law's frame -/
def LF (p : Program) (s : State) (m : MethodId) (meth : Method) (c : Code) (b Ln : Nat) (xs : Nat → Int32) (dA : Nat → Nat) (D : va_G) (adK adV : Nat → Nat) : Prop :=
  p.tables.exec = Jvm.exec ∧ c.code = code ∧ c.maxLocals = 4 ∧ meth.sig.returnType = ret ∧ s.vm.findClass R_law = some m.cls ∧ (∀ w ∈ gd_tbl, w.before #[Value.ref b] s = true) ∧ meth.locks = false ∧ va_X b Ln xs s s.heap ∧ b < s.heap.size ∧ Ln ≤ 3072 ∧ (∀ Ω : OM, oDA Ω = dA → oD Ω = D → oK Ω = adK → oV Ω = adV → (∀ q : Nat, oA Ω q → s.heap.size ≤ q) → KK Ω s)
def LG (p : Program) (l : Launch) (e : Env) (s : State) (m : MethodId) (below : List Frame) (meth : Method) (c : Code) (b : Nat) (dA : Nat → Nat) (D : va_G) (adK adV : Nat → Nat) (u v pc : Nat) (i : Int32) (st : List Value) (σx σm : MS) : Prop :=
  ∀ (H : Heap) (locs : List Loc) (ls : Array Slot), Rep (oX dA D adK adV s.heap.size) σx H → Rep (oM dA D adK adV s.heap.size H.size) σm H → va_S (fun q : Nat => s.heap.size ≤ q) s.heap H locs → lv_has ls 4 [(0, .ref b), (1, .ref s.heap.size), (2, .ref (s.heap.size + 56)), (3, .int i)] →
    W p l e room_1 s m #[Value.ref b] below meth c H locs u v (lw_Z below #[Value.ref b] s) (F0 m pc ls st)
section LL
variable {p : Program} {l : Launch} {e : Env} {s : State} {m : MethodId} {below : List Frame} {meth : Method} {c : Code} {b Ln : Nat} {xs : Nat → Int32} {dA : Nat → Nat} {D : va_G} {adK adV : Nat → Nat} {u v pc pc' : Nat} {i : Int32} {st : List Value} {σx σm : MS}
theorem l_pure {st' : List Value} (h : ∀ (H : Heap) (locs : List Loc) (ls : Array Slot) (Q : State → Prop), W p l e room_1 s m #[Value.ref b] below meth c H locs u v Q (F0 m pc' ls st') → W p l e room_1 s m #[Value.ref b] below meth c H locs u v Q (F0 m pc ls st)) (k : LG p l e s m below meth c b dA D adK adV u v pc' i st' σx σm) : LG p l e s m below meth c b dA D adK adV u v pc i st σx σm :=
  fun H locs ls h1 h2 h3 h4 => h H locs ls _ (k H locs ls h1 h2 h3 h4)
theorem l_aload0 (hF : LF p s m meth c b Ln xs dA D adK adV) (hd : Dc code pc (.aload_n 0) 1 pc') (k : LG p l e s m below meth c b dA D adK adV u v pc' i (.ref b :: st) σx σm) : LG p l e s m below meth c b dA D adK adV u v pc i st σx σm := by
  obtain ⟨hd, rfl⟩ := hd
  exact fun H locs ls h1 h2 h3 h4 => lv_aload_n hF.1 hF.2.1 hd rfl (lv_at h4 0 rfl) (k H locs ls h1 h2 h3 h4)
theorem l_aload1 (hF : LF p s m meth c b Ln xs dA D adK adV) (hd : Dc code pc (.aload_n 1) 1 pc') (k : LG p l e s m below meth c b dA D adK adV u v pc' i (.ref s.heap.size :: st) σx σm) : LG p l e s m below meth c b dA D adK adV u v pc i st σx σm := by
  obtain ⟨hd, rfl⟩ := hd
  exact fun H locs ls h1 h2 h3 h4 => lv_aload_n hF.1 hF.2.1 hd rfl (lv_at h4 1 rfl) (k H locs ls h1 h2 h3 h4)
theorem l_aload2 (hF : LF p s m meth c b Ln xs dA D adK adV) (hd : Dc code pc (.aload_n 2) 1 pc') (k : LG p l e s m below meth c b dA D adK adV u v pc' i (.ref (s.heap.size + 56) :: st) σx σm) : LG p l e s m below meth c b dA D adK adV u v pc i st σx σm := by
  obtain ⟨hd, rfl⟩ := hd
  exact fun H locs ls h1 h2 h3 h4 => lv_aload_n hF.1 hF.2.1 hd rfl (lv_at h4 2 rfl) (k H locs ls h1 h2 h3 h4)
theorem l_iload3 (hF : LF p s m meth c b Ln xs dA D adK adV) (hd : Dc code pc (.iload_n 3) 1 pc') (k : LG p l e s m below meth c b dA D adK adV u v pc' i (.int i :: st) σx σm) : LG p l e s m below meth c b dA D adK adV u v pc i st σx σm := by
  obtain ⟨hd, rfl⟩ := hd
  exact fun H locs ls h1 h2 h3 h4 => lv_iload_n hF.1 hF.2.1 hd rfl (lv_at h4 3 rfl) (k H locs ls h1 h2 h3 h4)
theorem l_iconst {n : Int} {w : Int32} (hF : LF p s m meth c b Ln xs dA D adK adV) (hd : Dc code pc (.iconst n) 1 pc') (hv : Int32.ofInt n = w) (k : LG p l e s m below meth c b dA D adK adV u v pc' i (.int w :: st) σx σm) : LG p l e s m below meth c b dA D adK adV u v pc i st σx σm := by
  obtain ⟨hd, rfl⟩ := hd
  exact l_pure (fun H locs ls Q h => lv_iconst hF.1 hF.2.1 hd hv h) k
theorem l_bipush {n : Int} {w : Int32} (hF : LF p s m meth c b Ln xs dA D adK adV) (hd : Dc code pc (.bipush n) 2 pc') (hv : (Int8.ofInt n).toInt32 = w) (k : LG p l e s m below meth c b dA D adK adV u v pc' i (.int w :: st) σx σm) : LG p l e s m below meth c b dA D adK adV u v pc i st σx σm := by
  obtain ⟨hd, rfl⟩ := hd
  exact l_pure (fun H locs ls Q h => lv_bipush hF.1 hF.2.1 hd hv h) k
theorem l_iadd {x y : Int32} (hF : LF p s m meth c b Ln xs dA D adK adV) (hd : Dc code pc .iadd 1 pc') (k : LG p l e s m below meth c b dA D adK adV u v pc' i (.int (x + y) :: st) σx σm) : LG p l e s m below meth c b dA D adK adV u v pc i (.int y :: .int x :: st) σx σm := by
  obtain ⟨hd, rfl⟩ := hd
  exact l_pure (fun H locs ls Q h => lv_iadd hF.1 hF.2.1 hd h) k
theorem l_isub {x y : Int32} (hF : LF p s m meth c b Ln xs dA D adK adV) (hd : Dc code pc .isub 1 pc') (k : LG p l e s m below meth c b dA D adK adV u v pc' i (.int (x - y) :: st) σx σm) : LG p l e s m below meth c b dA D adK adV u v pc i (.int y :: .int x :: st) σx σm := by
  obtain ⟨hd, rfl⟩ := hd
  exact l_pure (fun H locs ls Q h => lv_isub hF.1 hF.2.1 hd h) k
theorem l_iand {x y : Int32} (hF : LF p s m meth c b Ln xs dA D adK adV) (hd : Dc code pc .iand 1 pc') (k : LG p l e s m below meth c b dA D adK adV u v pc' i (.int (x &&& y) :: st) σx σm) : LG p l e s m below meth c b dA D adK adV u v pc i (.int y :: .int x :: st) σx σm := by
  obtain ⟨hd, rfl⟩ := hd
  exact l_pure (fun H locs ls Q h => lv_iand hF.1 hF.2.1 hd h) k
theorem l_goto {off : Int} {tgt : Nat} (hF : LF p s m meth c b Ln xs dA D adK adV) (hd : Dc code pc (.goto off) 3 pc') (ht : (pc : Int) + off = (tgt : Int)) (k : LG p l e s m below meth c b dA D adK adV u v tgt i st σx σm) : LG p l e s m below meth c b dA D adK adV u v pc i st σx σm :=
  l_pure (fun H locs ls Q h => lv_goto hF.1 hF.2.1 hd.1 ht h) k
/-- an int of the script -/
theorem l_sld {j : Int32} (hF : LF p s m meth c b Ln xs dA D adK adV) (hd : Dc code pc .iaload 1 pc') (hin : vp_in j Ln) (k : LG p l e s m below meth c b dA D adK adV u v pc' i (.int (xs j.toNatClampNeg) :: st) σx σm) : LG p l e s m below meth c b dA D adK adV u v pc i (.int j :: .ref b :: st) σx σm := by
  obtain ⟨hd, rfl⟩ := hd
  exact fun H locs ls h1 h2 h3 h4 => va_sld hF.1 hF.2.1 hF.2.2.2.2.2.2.2.1 hF.2.2.2.2.2.2.2.2.1 (Nat.not_le.mpr hF.2.2.2.2.2.2.2.2.1) h3 hin hd (k H locs ls h1 h2 h3 h4)
theorem l_slen {w : Int32} (hF : LF p s m meth c b Ln xs dA D adK adV) (hd : Dc code pc .arraylength 1 pc') (hv : Int32.ofNat Ln = w) (k : LG p l e s m below meth c b dA D adK adV u v pc' i (.int w :: st) σx σm) : LG p l e s m below meth c b dA D adK adV u v pc i (.ref b :: st) σx σm := by
  obtain ⟨hd, rfl⟩ := hd
  subst hv
  exact fun H locs ls h1 h2 h3 h4 => va_slen hF.1 hF.2.1 hF.2.2.2.2.2.2.2.1 hF.2.2.2.2.2.2.2.2.1 (Nat.not_le.mpr hF.2.2.2.2.2.2.2.2.1) h3 hd (k H locs ls h1 h2 h3 h4)
theorem l_iinc {w : Int32} (hF : LF p s m meth c b Ln xs dA D adK adV) (hd : Dc code pc (.iinc 3 6) 3 pc') (hv : i + Int32.ofInt 6 = w) (k : LG p l e s m below meth c b dA D adK adV u v pc' w st σx σm) : LG p l e s m below meth c b dA D adK adV u v pc i st σx σm := by
  obtain ⟨hd, rfl⟩ := hd
  exact fun H locs ls h1 h2 h3 h4 => lv_iinc (v := w) (lv' := [(3, .int w), (0, .ref b), (1, .ref s.heap.size), (2, .ref (s.heap.size + 56))]) hF.1 hF.2.1 hd h4 (k := 3) rfl hv (by decide) rfl (fun ls' h5 => k H locs ls' h1 h2 h3 (lv_sub h5 [1, 2, 3, 0] rfl))
theorem l_icmp {x y : Int32} {off : Int} {tgt : Nat} (hF : LF p s m meth c b Ln xs dA D adK adV) (hd : Dc code pc (.if_icmp .eq off) 3 pc') (ht : (pc : Int) + off = (tgt : Int)) (hxy : x = y) (k : LG p l e s m below meth c b dA D adK adV u v tgt i st σx σm) : LG p l e s m below meth c b dA D adK adV u v pc i (.int y :: .int x :: st) σx σm :=
  l_pure (fun H locs ls Q h => lv_icmp_eq hF.1 hF.2.1 hd.1 ht (fun _ => h) (fun hn => absurd hxy hn)) k
theorem l_gt {x y : Int32} {off : Int} {tgt : Nat} (hF : LF p s m meth c b Ln xs dA D adK adV) (hd : Dc code pc (.if_icmp .gt off) 3 pc') (ht : (pc : Int) + off = (tgt : Int)) (k1 : y < x → LG p l e s m below meth c b dA D adK adV u v tgt i st σx σm) (k2 : ¬ y < x → LG p l e s m below meth c b dA D adK adV u v pc' i st σx σm) : LG p l e s m below meth c b dA D adK adV u v pc i (.int y :: .int x :: st) σx σm := by
  obtain ⟨hd, rfl⟩ := hd
  exact fun H locs ls h1 h2 h3 h4 => lv_icmp_gt hF.1 hF.2.1 hd ht (fun hc => k1 hc H locs ls h1 h2 h3 h4) (fun hc => k2 hc H locs ls h1 h2 h3 h4)
/-- what a call of one side leaves of the other's memory -/
theorem rep_m {H H1 : Heap} {h : Nat} {base : Nat} (hR : Rep (oM dA D adK adV base h) σm H) (hk : ∀ q : Nat, q < H.size → ¬ oA (oX dA D adK adV base) q → H1[q]? = H[q]?) : Rep (oM dA D adK adV base H1.size) σm H1 := by
  obtain ⟨h1, h2, h3, h4⟩ := hR
  refine ⟨fun k q hq => ?_, h2, ⟨fun hf => absurd hf (fun x => x), fun _ => rfl⟩, h4⟩
  have hq' : (wsO (oM dA D adK adV base h) σm)[k]? = some q := hq
  have hat := h1 k q hq'
  have hA : base + 56 ≤ q.1 ∧ q.1 < base + 104 := h2.2 k q hq'
  exact hat.kept (hk q.1 hat.lt (fun hx => hx.2 hA))
theorem rep_x {H H1 : Heap} {h : Nat} {base : Nat} (hR : Rep (oX dA D adK adV base) σx H) (hz : H1.size = H.size) (hk : ∀ q : Nat, q < H.size → ¬ oA (oM dA D adK adV base h) q → H1[q]? = H[q]?) : Rep (oX dA D adK adV base) σx H1 := by
  obtain ⟨h1, h2, h3, h4⟩ := hR
  refine ⟨fun k q hq => ?_, h2, by rw [hz]; exact h3, h4⟩
  have hat := h1 k q hq
  have hA : base ≤ q.1 ∧ ¬ (base + 56 ≤ q.1 ∧ q.1 < base + 104) := h2.2 k q hq
  exact hat.kept (hk q.1 hat.lt (fun hx => hA.2 hx))
/-- behind a call, in the law -/
theorem l_after {Ω : OM} {βy : Type} {emy : βy → Option Value × MS} {q : βy} {H : Heap} {locs : List Loc} {ls : Array Slot} {st0 rest : List Value} {Q : State → Prop} {a : Array Value} {cy sy : Nat} (hA : ∀ q : Nat, oA Ω q → s.heap.size ≤ q) (hS : va_S (fun q : Nat => s.heap.size ≤ q) s.heap H locs) (hr : va_Run p l e room_1 s m #[Value.ref b] below meth c H locs u v cy sy (F0 m pc ls st0) rest (QC Ω (emy q) a) (oA Ω))
    (kk : ∀ (H1 : Heap) (locs1 : List Loc), Rep Ω (emy q).2 H1 → H.size ≤ H1.size → (∀ q : Nat, q < H.size → ¬ oA Ω q → H1[q]? = H[q]?) → va_S (fun q : Nat => s.heap.size ≤ q) s.heap H1 locs1 → W p l e room_1 s m #[Value.ref b] below meth c H1 locs1 (u + cy) (v + sy) Q (F0 m (pc + 3) ls (((emy q).1.map (cR (oR Ω))).toList ++ rest))) : W p l e room_1 s m #[Value.ref b] below meth c H locs u v Q (F0 m pc ls st0) := by
  intro T hT X0
  obtain ⟨w, st₀, t, T', Ls, h0, X', hLs, e1, e2, ⟨hv, hRep, hF⟩, stp⟩ := hr T hT X0
  have hw : w = (emy q).1.map (cR (oR Ω)) := by injection hv
  subst hw
  obtain ⟨hz, hk⟩ := hF
  rw [h0] at hz hk
  obtain ⟨t2, a1, b1⟩ := kk T'.heap (locs ++ Ls) (by rw [e1]; exact hRep) (by rw [e1]; exact hz) (fun q h1 h2 => by rw [e1]; exact hk q h1 h2) ⟨Nat.le_trans hS.1 (by rw [e1]; exact hz), fun q h1 h2 => by rw [e1, hk q (Nat.lt_of_lt_of_le h1 hS.1) (fun z => h2 (hA q z))]; exact hS.2.1 q h1 h2, fun x hx => by
    rcases List.mem_append.mp hx with h | h
    · exact hS.2.2 x h
    · exact hA _ (hLs x h)⟩ T' rfl X'
  exact ⟨t2, stp t2 a1, b1⟩
end LL
